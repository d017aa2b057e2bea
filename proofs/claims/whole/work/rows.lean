section
-- ===== PART A: goes FIRST, ahead of the names: the tables' words, and 'selects' of the private methods out of them =====
/-- a private method of a class that the tables say can be made, by its rows of tables_1 -/
def lw_okq (q : MethodName × Nat) : Prop := (q.1.cls ≠ "java/lang/invoke/MethodHandle" ∧ q.1.cls ≠ "java/lang/invoke/VarHandle") ∧ Cond.instantiable q.1.cls q.2 ∈ tables_1 ∧ Cond.privateMethod q.1 ∈ tables_1 ∧ Cond.instanceMethod q.1 ∈ tables_1
theorem lw_p0 : lw_okq (⟨"MinuteForTheUnread$Texts", "begin", "()V"⟩, 5) := ⟨⟨by decide +kernel, by decide +kernel⟩, List.mem_of_getElem? (i := 25) (by decide +kernel), List.mem_of_getElem? (i := 31) (by decide +kernel), List.mem_of_getElem? (i := 32) (by decide +kernel)⟩
theorem lw_p1 : lw_okq (⟨"MinuteForTheUnread$Texts", "put", "(I)V"⟩, 5) := ⟨⟨by decide +kernel, by decide +kernel⟩, List.mem_of_getElem? (i := 25) (by decide +kernel), List.mem_of_getElem? (i := 38) (by decide +kernel), List.mem_of_getElem? (i := 39) (by decide +kernel)⟩
theorem lw_p2 : lw_okq (⟨"MinuteForTheUnread$Texts", "endPart", "(I)V"⟩, 5) := ⟨⟨by decide +kernel, by decide +kernel⟩, List.mem_of_getElem? (i := 25) (by decide +kernel), List.mem_of_getElem? (i := 42) (by decide +kernel), List.mem_of_getElem? (i := 43) (by decide +kernel)⟩
theorem lw_p3 : lw_okq (⟨"MinuteForTheUnread$Texts", "keep", "()I"⟩, 5) := ⟨⟨by decide +kernel, by decide +kernel⟩, List.mem_of_getElem? (i := 25) (by decide +kernel), List.mem_of_getElem? (i := 46) (by decide +kernel), List.mem_of_getElem? (i := 47) (by decide +kernel)⟩
theorem lw_p4 : lw_okq (⟨"MinuteForTheUnread$Council", "hasCitizen", "(I)Z"⟩, 13) := ⟨⟨by decide +kernel, by decide +kernel⟩, List.mem_of_getElem? (i := 97) (by decide +kernel), List.mem_of_getElem? (i := 222) (by decide +kernel), List.mem_of_getElem? (i := 223) (by decide +kernel)⟩
theorem lw_p5 : lw_okq (⟨"MinuteForTheUnread", "toldOfCitizen", "(II)I"⟩, 8) := ⟨⟨by decide +kernel, by decide +kernel⟩, List.mem_of_getElem? (i := 17) (by decide +kernel), List.mem_of_getElem? (i := 226) (by decide +kernel), List.mem_of_getElem? (i := 227) (by decide +kernel)⟩
theorem lw_p6 : lw_okq (⟨"MinuteForTheUnread$Council", "numberOf", "(I)I"⟩, 13) := ⟨⟨by decide +kernel, by decide +kernel⟩, List.mem_of_getElem? (i := 97) (by decide +kernel), List.mem_of_getElem? (i := 230) (by decide +kernel), List.mem_of_getElem? (i := 231) (by decide +kernel)⟩
theorem lw_p7 : lw_okq (⟨"MinuteForTheUnread$Council", "bribeOf", "(I)I"⟩, 13) := ⟨⟨by decide +kernel, by decide +kernel⟩, List.mem_of_getElem? (i := 97) (by decide +kernel), List.mem_of_getElem? (i := 235) (by decide +kernel), List.mem_of_getElem? (i := 236) (by decide +kernel)⟩
theorem lw_p8 : lw_okq (⟨"MinuteForTheUnread$Council", "kindOf", "(I)I"⟩, 13) := ⟨⟨by decide +kernel, by decide +kernel⟩, List.mem_of_getElem? (i := 97) (by decide +kernel), List.mem_of_getElem? (i := 239) (by decide +kernel), List.mem_of_getElem? (i := 240) (by decide +kernel)⟩
theorem lw_p9 : lw_okq (⟨"MinuteForTheUnread$Council", "listed", "()I"⟩, 13) := ⟨⟨by decide +kernel, by decide +kernel⟩, List.mem_of_getElem? (i := 97) (by decide +kernel), List.mem_of_getElem? (i := 243) (by decide +kernel), List.mem_of_getElem? (i := 244) (by decide +kernel)⟩
theorem lw_p10 : lw_okq (⟨"MinuteForTheUnread$Council", "isRead", "(II)Z"⟩, 13) := ⟨⟨by decide +kernel, by decide +kernel⟩, List.mem_of_getElem? (i := 97) (by decide +kernel), List.mem_of_getElem? (i := 247) (by decide +kernel), List.mem_of_getElem? (i := 248) (by decide +kernel)⟩
theorem lw_p11 : lw_okq (⟨"MinuteForTheUnread$Council", "lookAt", "(II)V"⟩, 13) := ⟨⟨by decide +kernel, by decide +kernel⟩, List.mem_of_getElem? (i := 97) (by decide +kernel), List.mem_of_getElem? (i := 251) (by decide +kernel), List.mem_of_getElem? (i := 252) (by decide +kernel)⟩
theorem lw_p12 : lw_okq (⟨"MinuteForTheUnread$Texts", "value", "(II[I)I"⟩, 5) := ⟨⟨by decide +kernel, by decide +kernel⟩, List.mem_of_getElem? (i := 25) (by decide +kernel), List.mem_of_getElem? (i := 261) (by decide +kernel), List.mem_of_getElem? (i := 262) (by decide +kernel)⟩
theorem lw_p13 : lw_okq (⟨"MinuteForTheUnread$Texts", "hasText", "(I)Z"⟩, 5) := ⟨⟨by decide +kernel, by decide +kernel⟩, List.mem_of_getElem? (i := 25) (by decide +kernel), List.mem_of_getElem? (i := 265) (by decide +kernel), List.mem_of_getElem? (i := 266) (by decide +kernel)⟩
theorem lw_p14 : lw_okq (⟨"MinuteForTheUnread$Council", "silenceOf", "(II)I"⟩, 13) := ⟨⟨by decide +kernel, by decide +kernel⟩, List.mem_of_getElem? (i := 97) (by decide +kernel), List.mem_of_getElem? (i := 288) (by decide +kernel), List.mem_of_getElem? (i := 289) (by decide +kernel)⟩
theorem lw_p15 : lw_okq (⟨"MinuteForTheUnread$Council", "timeOf", "(II)I"⟩, 13) := ⟨⟨by decide +kernel, by decide +kernel⟩, List.mem_of_getElem? (i := 97) (by decide +kernel), List.mem_of_getElem? (i := 295) (by decide +kernel), List.mem_of_getElem? (i := 296) (by decide +kernel)⟩
def lw_privs_1 : List (MethodName × Nat) := [(⟨"MinuteForTheUnread$Texts", "begin", "()V"⟩, 5), (⟨"MinuteForTheUnread$Texts", "put", "(I)V"⟩, 5), (⟨"MinuteForTheUnread$Texts", "endPart", "(I)V"⟩, 5), (⟨"MinuteForTheUnread$Texts", "keep", "()I"⟩, 5), (⟨"MinuteForTheUnread$Council", "hasCitizen", "(I)Z"⟩, 13), (⟨"MinuteForTheUnread", "toldOfCitizen", "(II)I"⟩, 8), (⟨"MinuteForTheUnread$Council", "numberOf", "(I)I"⟩, 13), (⟨"MinuteForTheUnread$Council", "bribeOf", "(I)I"⟩, 13), (⟨"MinuteForTheUnread$Council", "kindOf", "(I)I"⟩, 13), (⟨"MinuteForTheUnread$Council", "listed", "()I"⟩, 13), (⟨"MinuteForTheUnread$Council", "isRead", "(II)Z"⟩, 13), (⟨"MinuteForTheUnread$Council", "lookAt", "(II)V"⟩, 13), (⟨"MinuteForTheUnread$Texts", "value", "(II[I)I"⟩, 5), (⟨"MinuteForTheUnread$Texts", "hasText", "(I)Z"⟩, 5), (⟨"MinuteForTheUnread$Council", "silenceOf", "(II)I"⟩, 13), (⟨"MinuteForTheUnread$Council", "timeOf", "(II)I"⟩, 13)]
theorem lw_r1 : ∀ q ∈ lw_privs_1, lw_okq q := List.forall_mem_cons.mpr ⟨lw_p0, List.forall_mem_cons.mpr ⟨lw_p1, List.forall_mem_cons.mpr ⟨lw_p2, List.forall_mem_cons.mpr ⟨lw_p3, List.forall_mem_cons.mpr ⟨lw_p4, List.forall_mem_cons.mpr ⟨lw_p5, List.forall_mem_cons.mpr ⟨lw_p6, List.forall_mem_cons.mpr ⟨lw_p7, List.forall_mem_cons.mpr ⟨lw_p8, List.forall_mem_cons.mpr ⟨lw_p9, List.forall_mem_cons.mpr ⟨lw_p10, List.forall_mem_cons.mpr ⟨lw_p11, List.forall_mem_cons.mpr ⟨lw_p12, List.forall_mem_cons.mpr ⟨lw_p13, List.forall_mem_cons.mpr ⟨lw_p14, List.forall_mem_cons.mpr ⟨lw_p15, fun _ h => absurd h List.not_mem_nil⟩⟩⟩⟩⟩⟩⟩⟩⟩⟩⟩⟩⟩⟩⟩⟩
theorem lw_p16 : lw_okq (⟨"MinuteForTheUnread$Council", "hasItem", "(I)Z"⟩, 13) := ⟨⟨by decide +kernel, by decide +kernel⟩, List.mem_of_getElem? (i := 97) (by decide +kernel), List.mem_of_getElem? (i := 302) (by decide +kernel), List.mem_of_getElem? (i := 303) (by decide +kernel)⟩
theorem lw_p17 : lw_okq (⟨"MinuteForTheUnread", "toldOfItem", "(II)I"⟩, 8) := ⟨⟨by decide +kernel, by decide +kernel⟩, List.mem_of_getElem? (i := 17) (by decide +kernel), List.mem_of_getElem? (i := 306) (by decide +kernel), List.mem_of_getElem? (i := 307) (by decide +kernel)⟩
theorem lw_p18 : lw_okq (⟨"MinuteForTheUnread$Council", "takesOf", "(I)I"⟩, 13) := ⟨⟨by decide +kernel, by decide +kernel⟩, List.mem_of_getElem? (i := 97) (by decide +kernel), List.mem_of_getElem? (i := 310) (by decide +kernel), List.mem_of_getElem? (i := 311) (by decide +kernel)⟩
theorem lw_p19 : lw_okq (⟨"MinuteForTheUnread$Council", "soFarOf", "(I)I"⟩, 13) := ⟨⟨by decide +kernel, by decide +kernel⟩, List.mem_of_getElem? (i := 97) (by decide +kernel), List.mem_of_getElem? (i := 315) (by decide +kernel), List.mem_of_getElem? (i := 316) (by decide +kernel)⟩
theorem lw_p20 : lw_okq (⟨"MinuteForTheUnread$Council", "doneAt", "(I)I"⟩, 13) := ⟨⟨by decide +kernel, by decide +kernel⟩, List.mem_of_getElem? (i := 97) (by decide +kernel), List.mem_of_getElem? (i := 319) (by decide +kernel), List.mem_of_getElem? (i := 320) (by decide +kernel)⟩
theorem lw_p21 : lw_okq (⟨"MinuteForTheUnread$Council", "putNumber", "(II)V"⟩, 13) := ⟨⟨by decide +kernel, by decide +kernel⟩, List.mem_of_getElem? (i := 97) (by decide +kernel), List.mem_of_getElem? (i := 326) (by decide +kernel), List.mem_of_getElem? (i := 327) (by decide +kernel)⟩
theorem lw_p22 : lw_okq (⟨"MinuteForTheUnread$Council", "putBribe", "(II)V"⟩, 13) := ⟨⟨by decide +kernel, by decide +kernel⟩, List.mem_of_getElem? (i := 97) (by decide +kernel), List.mem_of_getElem? (i := 330) (by decide +kernel), List.mem_of_getElem? (i := 331) (by decide +kernel)⟩
theorem lw_p23 : lw_okq (⟨"MinuteForTheUnread$Council", "addCitizen", "(II)I"⟩, 13) := ⟨⟨by decide +kernel, by decide +kernel⟩, List.mem_of_getElem? (i := 97) (by decide +kernel), List.mem_of_getElem? (i := 341) (by decide +kernel), List.mem_of_getElem? (i := 342) (by decide +kernel)⟩
theorem lw_p24 : lw_okq (⟨"MinuteForTheUnread$Council", "addItem", "(I)I"⟩, 13) := ⟨⟨by decide +kernel, by decide +kernel⟩, List.mem_of_getElem? (i := 97) (by decide +kernel), List.mem_of_getElem? (i := 349) (by decide +kernel), List.mem_of_getElem? (i := 350) (by decide +kernel)⟩
theorem lw_p25 : lw_okq (⟨"MinuteForTheUnread$Reader", "addByte", "(I)I"⟩, 7) := ⟨⟨by decide +kernel, by decide +kernel⟩, List.mem_of_getElem? (i := 68) (by decide +kernel), List.mem_of_getElem? (i := 358) (by decide +kernel), List.mem_of_getElem? (i := 359) (by decide +kernel)⟩
theorem lw_p26 : lw_okq (⟨"MinuteForTheUnread$Texts", "isFull", "()Z"⟩, 5) := ⟨⟨by decide +kernel, by decide +kernel⟩, List.mem_of_getElem? (i := 25) (by decide +kernel), List.mem_of_getElem? (i := 366) (by decide +kernel), List.mem_of_getElem? (i := 367) (by decide +kernel)⟩
theorem lw_p27 : lw_okq (⟨"MinuteForTheUnread$Reader", "readTape", "()I"⟩, 7) := ⟨⟨by decide +kernel, by decide +kernel⟩, List.mem_of_getElem? (i := 68) (by decide +kernel), List.mem_of_getElem? (i := 370) (by decide +kernel), List.mem_of_getElem? (i := 371) (by decide +kernel)⟩
theorem lw_p28 : lw_okq (⟨"MinuteForTheUnread$Reader", "passToken", "()V"⟩, 7) := ⟨⟨by decide +kernel, by decide +kernel⟩, List.mem_of_getElem? (i := 68) (by decide +kernel), List.mem_of_getElem? (i := 375) (by decide +kernel), List.mem_of_getElem? (i := 376) (by decide +kernel)⟩
theorem lw_p29 : lw_okq (⟨"MinuteForTheUnread$Reader", "passWord", "()I"⟩, 7) := ⟨⟨by decide +kernel, by decide +kernel⟩, List.mem_of_getElem? (i := 68) (by decide +kernel), List.mem_of_getElem? (i := 385) (by decide +kernel), List.mem_of_getElem? (i := 386) (by decide +kernel)⟩
theorem lw_p30 : lw_okq (⟨"MinuteForTheUnread$Reader", "isSpelt", "(Ljava/lang/String;)Z"⟩, 7) := ⟨⟨by decide +kernel, by decide +kernel⟩, List.mem_of_getElem? (i := 68) (by decide +kernel), List.mem_of_getElem? (i := 404) (by decide +kernel), List.mem_of_getElem? (i := 405) (by decide +kernel)⟩
theorem lw_p31 : lw_okq (⟨"MinuteForTheUnread$Reader", "passNumber", "()I"⟩, 7) := ⟨⟨by decide +kernel, by decide +kernel⟩, List.mem_of_getElem? (i := 68) (by decide +kernel), List.mem_of_getElem? (i := 459) (by decide +kernel), List.mem_of_getElem? (i := 460) (by decide +kernel)⟩
def lw_privs_2 : List (MethodName × Nat) := [(⟨"MinuteForTheUnread$Council", "hasItem", "(I)Z"⟩, 13), (⟨"MinuteForTheUnread", "toldOfItem", "(II)I"⟩, 8), (⟨"MinuteForTheUnread$Council", "takesOf", "(I)I"⟩, 13), (⟨"MinuteForTheUnread$Council", "soFarOf", "(I)I"⟩, 13), (⟨"MinuteForTheUnread$Council", "doneAt", "(I)I"⟩, 13), (⟨"MinuteForTheUnread$Council", "putNumber", "(II)V"⟩, 13), (⟨"MinuteForTheUnread$Council", "putBribe", "(II)V"⟩, 13), (⟨"MinuteForTheUnread$Council", "addCitizen", "(II)I"⟩, 13), (⟨"MinuteForTheUnread$Council", "addItem", "(I)I"⟩, 13), (⟨"MinuteForTheUnread$Reader", "addByte", "(I)I"⟩, 7), (⟨"MinuteForTheUnread$Texts", "isFull", "()Z"⟩, 5), (⟨"MinuteForTheUnread$Reader", "readTape", "()I"⟩, 7), (⟨"MinuteForTheUnread$Reader", "passToken", "()V"⟩, 7), (⟨"MinuteForTheUnread$Reader", "passWord", "()I"⟩, 7), (⟨"MinuteForTheUnread$Reader", "isSpelt", "(Ljava/lang/String;)Z"⟩, 7), (⟨"MinuteForTheUnread$Reader", "passNumber", "()I"⟩, 7)]
theorem lw_r2 : ∀ q ∈ lw_privs_2, lw_okq q := List.forall_mem_cons.mpr ⟨lw_p16, List.forall_mem_cons.mpr ⟨lw_p17, List.forall_mem_cons.mpr ⟨lw_p18, List.forall_mem_cons.mpr ⟨lw_p19, List.forall_mem_cons.mpr ⟨lw_p20, List.forall_mem_cons.mpr ⟨lw_p21, List.forall_mem_cons.mpr ⟨lw_p22, List.forall_mem_cons.mpr ⟨lw_p23, List.forall_mem_cons.mpr ⟨lw_p24, List.forall_mem_cons.mpr ⟨lw_p25, List.forall_mem_cons.mpr ⟨lw_p26, List.forall_mem_cons.mpr ⟨lw_p27, List.forall_mem_cons.mpr ⟨lw_p28, List.forall_mem_cons.mpr ⟨lw_p29, List.forall_mem_cons.mpr ⟨lw_p30, List.forall_mem_cons.mpr ⟨lw_p31, fun _ h => absurd h List.not_mem_nil⟩⟩⟩⟩⟩⟩⟩⟩⟩⟩⟩⟩⟩⟩⟩⟩
theorem lw_p32 : lw_okq (⟨"MinuteForTheUnread$Reader", "passed", "(I)Z"⟩, 7) := ⟨⟨by decide +kernel, by decide +kernel⟩, List.mem_of_getElem? (i := 68) (by decide +kernel), List.mem_of_getElem? (i := 466) (by decide +kernel), List.mem_of_getElem? (i := 467) (by decide +kernel)⟩
theorem lw_p33 : lw_okq (⟨"MinuteForTheUnread$Reader", "readOr", "(I)Z"⟩, 7) := ⟨⟨by decide +kernel, by decide +kernel⟩, List.mem_of_getElem? (i := 68) (by decide +kernel), List.mem_of_getElem? (i := 470) (by decide +kernel), List.mem_of_getElem? (i := 471) (by decide +kernel)⟩
theorem lw_p34 : lw_okq (⟨"MinuteForTheUnread$Reader", "readAnd", "(I)Z"⟩, 7) := ⟨⟨by decide +kernel, by decide +kernel⟩, List.mem_of_getElem? (i := 68) (by decide +kernel), List.mem_of_getElem? (i := 474) (by decide +kernel), List.mem_of_getElem? (i := 475) (by decide +kernel)⟩
theorem lw_p35 : lw_okq (⟨"MinuteForTheUnread$Reader", "readNot", "(I)Z"⟩, 7) := ⟨⟨by decide +kernel, by decide +kernel⟩, List.mem_of_getElem? (i := 68) (by decide +kernel), List.mem_of_getElem? (i := 478) (by decide +kernel), List.mem_of_getElem? (i := 479) (by decide +kernel)⟩
theorem lw_p36 : lw_okq (⟨"MinuteForTheUnread$Reader", "readComparison", "(I)Z"⟩, 7) := ⟨⟨by decide +kernel, by decide +kernel⟩, List.mem_of_getElem? (i := 68) (by decide +kernel), List.mem_of_getElem? (i := 482) (by decide +kernel), List.mem_of_getElem? (i := 483) (by decide +kernel)⟩
theorem lw_p37 : lw_okq (⟨"MinuteForTheUnread$Reader", "readSum", "(I)Z"⟩, 7) := ⟨⟨by decide +kernel, by decide +kernel⟩, List.mem_of_getElem? (i := 68) (by decide +kernel), List.mem_of_getElem? (i := 486) (by decide +kernel), List.mem_of_getElem? (i := 487) (by decide +kernel)⟩
theorem lw_p38 : lw_okq (⟨"MinuteForTheUnread$Reader", "readTerm", "(I)Z"⟩, 7) := ⟨⟨by decide +kernel, by decide +kernel⟩, List.mem_of_getElem? (i := 68) (by decide +kernel), List.mem_of_getElem? (i := 490) (by decide +kernel), List.mem_of_getElem? (i := 491) (by decide +kernel)⟩
theorem lw_p39 : lw_okq (⟨"MinuteForTheUnread$Reader", "readOne", "(I)Z"⟩, 7) := ⟨⟨by decide +kernel, by decide +kernel⟩, List.mem_of_getElem? (i := 68) (by decide +kernel), List.mem_of_getElem? (i := 494) (by decide +kernel), List.mem_of_getElem? (i := 495) (by decide +kernel)⟩
theorem lw_p40 : lw_okq (⟨"MinuteForTheUnread$Council", "spentOn", "(II)I"⟩, 13) := ⟨⟨by decide +kernel, by decide +kernel⟩, List.mem_of_getElem? (i := 97) (by decide +kernel), List.mem_of_getElem? (i := 513) (by decide +kernel), List.mem_of_getElem? (i := 514) (by decide +kernel)⟩
theorem lw_p41 : lw_okq (⟨"MinuteForTheUnread$Council", "minutesLeft", "()I"⟩, 13) := ⟨⟨by decide +kernel, by decide +kernel⟩, List.mem_of_getElem? (i := 97) (by decide +kernel), List.mem_of_getElem? (i := 519) (by decide +kernel), List.mem_of_getElem? (i := 520) (by decide +kernel)⟩
theorem lw_p42 : lw_okq (⟨"MinuteForTheUnread$Council", "everyone", "()I"⟩, 13) := ⟨⟨by decide +kernel, by decide +kernel⟩, List.mem_of_getElem? (i := 97) (by decide +kernel), List.mem_of_getElem? (i := 523) (by decide +kernel), List.mem_of_getElem? (i := 524) (by decide +kernel)⟩
theorem lw_p43 : lw_okq (⟨"MinuteForTheUnread$Council", "spentBy", "(I)I"⟩, 13) := ⟨⟨by decide +kernel, by decide +kernel⟩, List.mem_of_getElem? (i := 97) (by decide +kernel), List.mem_of_getElem? (i := 535) (by decide +kernel), List.mem_of_getElem? (i := 536) (by decide +kernel)⟩
theorem lw_p44 : lw_okq (⟨"MinuteForTheUnread$Council", "itemsDone", "()I"⟩, 13) := ⟨⟨by decide +kernel, by decide +kernel⟩, List.mem_of_getElem? (i := 97) (by decide +kernel), List.mem_of_getElem? (i := 543) (by decide +kernel), List.mem_of_getElem? (i := 544) (by decide +kernel)⟩
theorem lw_p45 : lw_okq (⟨"MinuteForTheUnread$Council", "hold", "()I"⟩, 13) := ⟨⟨by decide +kernel, by decide +kernel⟩, List.mem_of_getElem? (i := 97) (by decide +kernel), List.mem_of_getElem? (i := 548) (by decide +kernel), List.mem_of_getElem? (i := 549) (by decide +kernel)⟩
theorem lw_p46 : lw_okq (⟨"MinuteForTheUnread$Council", "goOnWith", "(II)I"⟩, 13) := ⟨⟨by decide +kernel, by decide +kernel⟩, List.mem_of_getElem? (i := 97) (by decide +kernel), List.mem_of_getElem? (i := 553) (by decide +kernel), List.mem_of_getElem? (i := 554) (by decide +kernel)⟩
theorem lw_p47 : lw_okq (⟨"MinuteForTheUnread$Council", "become", "(LMinuteForTheUnread$Council;)V"⟩, 13) := ⟨⟨by decide +kernel, by decide +kernel⟩, List.mem_of_getElem? (i := 97) (by decide +kernel), List.mem_of_getElem? (i := 562) (by decide +kernel), List.mem_of_getElem? (i := 563) (by decide +kernel)⟩
def lw_privs_3 : List (MethodName × Nat) := [(⟨"MinuteForTheUnread$Reader", "passed", "(I)Z"⟩, 7), (⟨"MinuteForTheUnread$Reader", "readOr", "(I)Z"⟩, 7), (⟨"MinuteForTheUnread$Reader", "readAnd", "(I)Z"⟩, 7), (⟨"MinuteForTheUnread$Reader", "readNot", "(I)Z"⟩, 7), (⟨"MinuteForTheUnread$Reader", "readComparison", "(I)Z"⟩, 7), (⟨"MinuteForTheUnread$Reader", "readSum", "(I)Z"⟩, 7), (⟨"MinuteForTheUnread$Reader", "readTerm", "(I)Z"⟩, 7), (⟨"MinuteForTheUnread$Reader", "readOne", "(I)Z"⟩, 7), (⟨"MinuteForTheUnread$Council", "spentOn", "(II)I"⟩, 13), (⟨"MinuteForTheUnread$Council", "minutesLeft", "()I"⟩, 13), (⟨"MinuteForTheUnread$Council", "everyone", "()I"⟩, 13), (⟨"MinuteForTheUnread$Council", "spentBy", "(I)I"⟩, 13), (⟨"MinuteForTheUnread$Council", "itemsDone", "()I"⟩, 13), (⟨"MinuteForTheUnread$Council", "hold", "()I"⟩, 13), (⟨"MinuteForTheUnread$Council", "goOnWith", "(II)I"⟩, 13), (⟨"MinuteForTheUnread$Council", "become", "(LMinuteForTheUnread$Council;)V"⟩, 13)]
theorem lw_r3 : ∀ q ∈ lw_privs_3, lw_okq q := List.forall_mem_cons.mpr ⟨lw_p32, List.forall_mem_cons.mpr ⟨lw_p33, List.forall_mem_cons.mpr ⟨lw_p34, List.forall_mem_cons.mpr ⟨lw_p35, List.forall_mem_cons.mpr ⟨lw_p36, List.forall_mem_cons.mpr ⟨lw_p37, List.forall_mem_cons.mpr ⟨lw_p38, List.forall_mem_cons.mpr ⟨lw_p39, List.forall_mem_cons.mpr ⟨lw_p40, List.forall_mem_cons.mpr ⟨lw_p41, List.forall_mem_cons.mpr ⟨lw_p42, List.forall_mem_cons.mpr ⟨lw_p43, List.forall_mem_cons.mpr ⟨lw_p44, List.forall_mem_cons.mpr ⟨lw_p45, List.forall_mem_cons.mpr ⟨lw_p46, List.forall_mem_cons.mpr ⟨lw_p47, fun _ h => absurd h List.not_mem_nil⟩⟩⟩⟩⟩⟩⟩⟩⟩⟩⟩⟩⟩⟩⟩⟩
theorem lw_p48 : lw_okq (⟨"MinuteForTheUnread$Council", "doneWithin", "(II)I"⟩, 13) := ⟨⟨by decide +kernel, by decide +kernel⟩, List.mem_of_getElem? (i := 97) (by decide +kernel), List.mem_of_getElem? (i := 581) (by decide +kernel), List.mem_of_getElem? (i := 582) (by decide +kernel)⟩
theorem lw_p49 : lw_okq (⟨"MinuteForTheUnread$Orders", "weigh", "(LMinuteForTheUnread$Council;)V"⟩, 5) := ⟨⟨by decide +kernel, by decide +kernel⟩, List.mem_of_getElem? (i := 149) (by decide +kernel), List.mem_of_getElem? (i := 594) (by decide +kernel), List.mem_of_getElem? (i := 595) (by decide +kernel)⟩
theorem lw_p50 : lw_okq (⟨"MinuteForTheUnread$Orders", "tryAll", "(IIIII)V"⟩, 5) := ⟨⟨by decide +kernel, by decide +kernel⟩, List.mem_of_getElem? (i := 149) (by decide +kernel), List.mem_of_getElem? (i := 602) (by decide +kernel), List.mem_of_getElem? (i := 603) (by decide +kernel)⟩
theorem lw_p51 : lw_okq (⟨"MinuteForTheUnread$Orders", "sittingAfter", "(I)I"⟩, 5) := ⟨⟨by decide +kernel, by decide +kernel⟩, List.mem_of_getElem? (i := 149) (by decide +kernel), List.mem_of_getElem? (i := 606) (by decide +kernel), List.mem_of_getElem? (i := 607) (by decide +kernel)⟩
theorem lw_p52 : lw_okq (⟨"MinuteForTheUnread$Sheets", "hasPlace", "(I)Z"⟩, 3) := ⟨⟨by decide +kernel, by decide +kernel⟩, List.mem_of_getElem? (i := 173) (by decide +kernel), List.mem_of_getElem? (i := 618) (by decide +kernel), List.mem_of_getElem? (i := 619) (by decide +kernel)⟩
theorem lw_p53 : lw_okq (⟨"MinuteForTheUnread", "canBeAsked", "(I)Z"⟩, 8) := ⟨⟨by decide +kernel, by decide +kernel⟩, List.mem_of_getElem? (i := 17) (by decide +kernel), List.mem_of_getElem? (i := 622) (by decide +kernel), List.mem_of_getElem? (i := 623) (by decide +kernel)⟩
theorem lw_p54 : lw_okq (⟨"MinuteForTheUnread$Sheets", "isMissing", "(I)Z"⟩, 3) := ⟨⟨by decide +kernel, by decide +kernel⟩, List.mem_of_getElem? (i := 173) (by decide +kernel), List.mem_of_getElem? (i := 626) (by decide +kernel), List.mem_of_getElem? (i := 627) (by decide +kernel)⟩
theorem lw_p55 : lw_okq (⟨"MinuteForTheUnread$Sheets", "sortOf", "(I)I"⟩, 3) := ⟨⟨by decide +kernel, by decide +kernel⟩, List.mem_of_getElem? (i := 173) (by decide +kernel), List.mem_of_getElem? (i := 630) (by decide +kernel), List.mem_of_getElem? (i := 631) (by decide +kernel)⟩
theorem lw_p56 : lw_okq (⟨"MinuteForTheUnread$Sheets", "sizeOf", "(I)I"⟩, 3) := ⟨⟨by decide +kernel, by decide +kernel⟩, List.mem_of_getElem? (i := 173) (by decide +kernel), List.mem_of_getElem? (i := 635) (by decide +kernel), List.mem_of_getElem? (i := 636) (by decide +kernel)⟩
theorem lw_p57 : lw_okq (⟨"MinuteForTheUnread$Sheets", "valueAt", "(II)I"⟩, 3) := ⟨⟨by decide +kernel, by decide +kernel⟩, List.mem_of_getElem? (i := 173) (by decide +kernel), List.mem_of_getElem? (i := 639) (by decide +kernel), List.mem_of_getElem? (i := 640) (by decide +kernel)⟩
theorem lw_p58 : lw_okq (⟨"MinuteForTheUnread$Sheets", "hasItem", "(II)Z"⟩, 3) := ⟨⟨by decide +kernel, by decide +kernel⟩, List.mem_of_getElem? (i := 173) (by decide +kernel), List.mem_of_getElem? (i := 643) (by decide +kernel), List.mem_of_getElem? (i := 644) (by decide +kernel)⟩
theorem lw_p59 : lw_okq (⟨"MinuteForTheUnread", "ways", "(II)I"⟩, 8) := ⟨⟨by decide +kernel, by decide +kernel⟩, List.mem_of_getElem? (i := 17) (by decide +kernel), List.mem_of_getElem? (i := 648) (by decide +kernel), List.mem_of_getElem? (i := 649) (by decide +kernel)⟩
theorem lw_p60 : lw_okq (⟨"MinuteForTheUnread", "textsBy", "(I)I"⟩, 8) := ⟨⟨by decide +kernel, by decide +kernel⟩, List.mem_of_getElem? (i := 17) (by decide +kernel), List.mem_of_getElem? (i := 652) (by decide +kernel), List.mem_of_getElem? (i := 653) (by decide +kernel)⟩
theorem lw_p61 : lw_okq (⟨"MinuteForTheUnread$Council", "spentByList", "()I"⟩, 13) := ⟨⟨by decide +kernel, by decide +kernel⟩, List.mem_of_getElem? (i := 97) (by decide +kernel), List.mem_of_getElem? (i := 656) (by decide +kernel), List.mem_of_getElem? (i := 657) (by decide +kernel)⟩
theorem lw_p62 : lw_okq (⟨"MinuteForTheUnread", "ofOneBy", "(III)I"⟩, 8) := ⟨⟨by decide +kernel, by decide +kernel⟩, List.mem_of_getElem? (i := 17) (by decide +kernel), List.mem_of_getElem? (i := 660) (by decide +kernel), List.mem_of_getElem? (i := 661) (by decide +kernel)⟩
theorem lw_p63 : lw_okq (⟨"MinuteForTheUnread", "kindsBy", "(II)I"⟩, 8) := ⟨⟨by decide +kernel, by decide +kernel⟩, List.mem_of_getElem? (i := 17) (by decide +kernel), List.mem_of_getElem? (i := 664) (by decide +kernel), List.mem_of_getElem? (i := 665) (by decide +kernel)⟩
def lw_privs_4 : List (MethodName × Nat) := [(⟨"MinuteForTheUnread$Council", "doneWithin", "(II)I"⟩, 13), (⟨"MinuteForTheUnread$Orders", "weigh", "(LMinuteForTheUnread$Council;)V"⟩, 5), (⟨"MinuteForTheUnread$Orders", "tryAll", "(IIIII)V"⟩, 5), (⟨"MinuteForTheUnread$Orders", "sittingAfter", "(I)I"⟩, 5), (⟨"MinuteForTheUnread$Sheets", "hasPlace", "(I)Z"⟩, 3), (⟨"MinuteForTheUnread", "canBeAsked", "(I)Z"⟩, 8), (⟨"MinuteForTheUnread$Sheets", "isMissing", "(I)Z"⟩, 3), (⟨"MinuteForTheUnread$Sheets", "sortOf", "(I)I"⟩, 3), (⟨"MinuteForTheUnread$Sheets", "sizeOf", "(I)I"⟩, 3), (⟨"MinuteForTheUnread$Sheets", "valueAt", "(II)I"⟩, 3), (⟨"MinuteForTheUnread$Sheets", "hasItem", "(II)Z"⟩, 3), (⟨"MinuteForTheUnread", "ways", "(II)I"⟩, 8), (⟨"MinuteForTheUnread", "textsBy", "(I)I"⟩, 8), (⟨"MinuteForTheUnread$Council", "spentByList", "()I"⟩, 13), (⟨"MinuteForTheUnread", "ofOneBy", "(III)I"⟩, 8), (⟨"MinuteForTheUnread", "kindsBy", "(II)I"⟩, 8)]
theorem lw_r4 : ∀ q ∈ lw_privs_4, lw_okq q := List.forall_mem_cons.mpr ⟨lw_p48, List.forall_mem_cons.mpr ⟨lw_p49, List.forall_mem_cons.mpr ⟨lw_p50, List.forall_mem_cons.mpr ⟨lw_p51, List.forall_mem_cons.mpr ⟨lw_p52, List.forall_mem_cons.mpr ⟨lw_p53, List.forall_mem_cons.mpr ⟨lw_p54, List.forall_mem_cons.mpr ⟨lw_p55, List.forall_mem_cons.mpr ⟨lw_p56, List.forall_mem_cons.mpr ⟨lw_p57, List.forall_mem_cons.mpr ⟨lw_p58, List.forall_mem_cons.mpr ⟨lw_p59, List.forall_mem_cons.mpr ⟨lw_p60, List.forall_mem_cons.mpr ⟨lw_p61, List.forall_mem_cons.mpr ⟨lw_p62, List.forall_mem_cons.mpr ⟨lw_p63, fun _ h => absurd h List.not_mem_nil⟩⟩⟩⟩⟩⟩⟩⟩⟩⟩⟩⟩⟩⟩⟩⟩
theorem lw_p64 : lw_okq (⟨"MinuteForTheUnread$Council", "putKind", "(II)V"⟩, 13) := ⟨⟨by decide +kernel, by decide +kernel⟩, List.mem_of_getElem? (i := 97) (by decide +kernel), List.mem_of_getElem? (i := 668) (by decide +kernel), List.mem_of_getElem? (i := 669) (by decide +kernel)⟩
theorem lw_p65 : lw_okq (⟨"MinuteForTheUnread", "numbersBy", "(II)I"⟩, 8) := ⟨⟨by decide +kernel, by decide +kernel⟩, List.mem_of_getElem? (i := 17) (by decide +kernel), List.mem_of_getElem? (i := 672) (by decide +kernel), List.mem_of_getElem? (i := 673) (by decide +kernel)⟩
theorem lw_p66 : lw_okq (⟨"MinuteForTheUnread", "bribesBy", "(IIZ)I"⟩, 8) := ⟨⟨by decide +kernel, by decide +kernel⟩, List.mem_of_getElem? (i := 17) (by decide +kernel), List.mem_of_getElem? (i := 676) (by decide +kernel), List.mem_of_getElem? (i := 677) (by decide +kernel)⟩
theorem lw_p67 : lw_okq (⟨"MinuteForTheUnread$Sheets", "lay", "(III)V"⟩, 3) := ⟨⟨by decide +kernel, by decide +kernel⟩, List.mem_of_getElem? (i := 173) (by decide +kernel), List.mem_of_getElem? (i := 684) (by decide +kernel), List.mem_of_getElem? (i := 685) (by decide +kernel)⟩
theorem lw_p68 : lw_okq (⟨"MinuteForTheUnread$Sheets", "store", "(III)V"⟩, 3) := ⟨⟨by decide +kernel, by decide +kernel⟩, List.mem_of_getElem? (i := 173) (by decide +kernel), List.mem_of_getElem? (i := 688) (by decide +kernel), List.mem_of_getElem? (i := 689) (by decide +kernel)⟩
theorem lw_p69 : lw_okq (⟨"MinuteForTheUnread$Council", "drawBribes", "(I)V"⟩, 13) := ⟨⟨by decide +kernel, by decide +kernel⟩, List.mem_of_getElem? (i := 97) (by decide +kernel), List.mem_of_getElem? (i := 696) (by decide +kernel), List.mem_of_getElem? (i := 697) (by decide +kernel)⟩
theorem lw_p70 : lw_okq (⟨"MinuteForTheUnread$Sheets", "hasItems", "(III)Z"⟩, 3) := ⟨⟨by decide +kernel, by decide +kernel⟩, List.mem_of_getElem? (i := 173) (by decide +kernel), List.mem_of_getElem? (i := 739) (by decide +kernel), List.mem_of_getElem? (i := 740) (by decide +kernel)⟩
theorem lw_p71 : lw_okq (⟨"MinuteForTheUnread$Sheets", "move", "(IIIII)V"⟩, 3) := ⟨⟨by decide +kernel, by decide +kernel⟩, List.mem_of_getElem? (i := 173) (by decide +kernel), List.mem_of_getElem? (i := 743) (by decide +kernel), List.mem_of_getElem? (i := 744) (by decide +kernel)⟩
theorem lw_p72 : lw_okq (⟨"MinuteForTheUnreadModel", "spell", "(IIIIIIIII)V"⟩, 55) := ⟨⟨by decide +kernel, by decide +kernel⟩, List.mem_of_getElem? (i := 764) (by decide +kernel), List.mem_of_getElem? (i := 770) (by decide +kernel), List.mem_of_getElem? (i := 771) (by decide +kernel)⟩
theorem lw_p73 : lw_okq (⟨"MinuteForTheUnreadModel", "isOne", "(I)Z"⟩, 55) := ⟨⟨by decide +kernel, by decide +kernel⟩, List.mem_of_getElem? (i := 764) (by decide +kernel), List.mem_of_getElem? (i := 949) (by decide +kernel), List.mem_of_getElem? (i := 950) (by decide +kernel)⟩
theorem lw_p74 : lw_okq (⟨"MinuteForTheUnreadModel", "isItem", "(I)Z"⟩, 55) := ⟨⟨by decide +kernel, by decide +kernel⟩, List.mem_of_getElem? (i := 764) (by decide +kernel), List.mem_of_getElem? (i := 961) (by decide +kernel), List.mem_of_getElem? (i := 962) (by decide +kernel)⟩
theorem lw_p75 : lw_okq (⟨"MinuteForTheUnreadModel", "listNow", "()I"⟩, 55) := ⟨⟨by decide +kernel, by decide +kernel⟩, List.mem_of_getElem? (i := 764) (by decide +kernel), List.mem_of_getElem? (i := 967) (by decide +kernel), List.mem_of_getElem? (i := 968) (by decide +kernel)⟩
theorem lw_p76 : lw_okq (⟨"MinuteForTheUnreadModel", "isRead", "(II)Z"⟩, 55) := ⟨⟨by decide +kernel, by decide +kernel⟩, List.mem_of_getElem? (i := 764) (by decide +kernel), List.mem_of_getElem? (i := 971) (by decide +kernel), List.mem_of_getElem? (i := 972) (by decide +kernel)⟩
theorem lw_p77 : lw_okq (⟨"MinuteForTheUnreadModel", "asks", "(III)I"⟩, 55) := ⟨⟨by decide +kernel, by decide +kernel⟩, List.mem_of_getElem? (i := 764) (by decide +kernel), List.mem_of_getElem? (i := 975) (by decide +kernel), List.mem_of_getElem? (i := 976) (by decide +kernel)⟩
theorem lw_p78 : lw_okq (⟨"MinuteForTheUnreadModel", "read", "(II)I"⟩, 55) := ⟨⟨by decide +kernel, by decide +kernel⟩, List.mem_of_getElem? (i := 764) (by decide +kernel), List.mem_of_getElem? (i := 983) (by decide +kernel), List.mem_of_getElem? (i := 984) (by decide +kernel)⟩
theorem lw_p79 : lw_okq (⟨"MinuteForTheUnreadModel", "next", "()V"⟩, 55) := ⟨⟨by decide +kernel, by decide +kernel⟩, List.mem_of_getElem? (i := 764) (by decide +kernel), List.mem_of_getElem? (i := 987) (by decide +kernel), List.mem_of_getElem? (i := 988) (by decide +kernel)⟩
def lw_privs_5 : List (MethodName × Nat) := [(⟨"MinuteForTheUnread$Council", "putKind", "(II)V"⟩, 13), (⟨"MinuteForTheUnread", "numbersBy", "(II)I"⟩, 8), (⟨"MinuteForTheUnread", "bribesBy", "(IIZ)I"⟩, 8), (⟨"MinuteForTheUnread$Sheets", "lay", "(III)V"⟩, 3), (⟨"MinuteForTheUnread$Sheets", "store", "(III)V"⟩, 3), (⟨"MinuteForTheUnread$Council", "drawBribes", "(I)V"⟩, 13), (⟨"MinuteForTheUnread$Sheets", "hasItems", "(III)Z"⟩, 3), (⟨"MinuteForTheUnread$Sheets", "move", "(IIIII)V"⟩, 3), (⟨"MinuteForTheUnreadModel", "spell", "(IIIIIIIII)V"⟩, 55), (⟨"MinuteForTheUnreadModel", "isOne", "(I)Z"⟩, 55), (⟨"MinuteForTheUnreadModel", "isItem", "(I)Z"⟩, 55), (⟨"MinuteForTheUnreadModel", "listNow", "()I"⟩, 55), (⟨"MinuteForTheUnreadModel", "isRead", "(II)Z"⟩, 55), (⟨"MinuteForTheUnreadModel", "asks", "(III)I"⟩, 55), (⟨"MinuteForTheUnreadModel", "read", "(II)I"⟩, 55), (⟨"MinuteForTheUnreadModel", "next", "()V"⟩, 55)]
theorem lw_r5 : ∀ q ∈ lw_privs_5, lw_okq q := List.forall_mem_cons.mpr ⟨lw_p64, List.forall_mem_cons.mpr ⟨lw_p65, List.forall_mem_cons.mpr ⟨lw_p66, List.forall_mem_cons.mpr ⟨lw_p67, List.forall_mem_cons.mpr ⟨lw_p68, List.forall_mem_cons.mpr ⟨lw_p69, List.forall_mem_cons.mpr ⟨lw_p70, List.forall_mem_cons.mpr ⟨lw_p71, List.forall_mem_cons.mpr ⟨lw_p72, List.forall_mem_cons.mpr ⟨lw_p73, List.forall_mem_cons.mpr ⟨lw_p74, List.forall_mem_cons.mpr ⟨lw_p75, List.forall_mem_cons.mpr ⟨lw_p76, List.forall_mem_cons.mpr ⟨lw_p77, List.forall_mem_cons.mpr ⟨lw_p78, List.forall_mem_cons.mpr ⟨lw_p79, fun _ h => absurd h List.not_mem_nil⟩⟩⟩⟩⟩⟩⟩⟩⟩⟩⟩⟩⟩⟩⟩⟩
theorem lw_p80 : lw_okq (⟨"MinuteForTheUnreadModel", "byteAt", "(I)I"⟩, 55) := ⟨⟨by decide +kernel, by decide +kernel⟩, List.mem_of_getElem? (i := 764) (by decide +kernel), List.mem_of_getElem? (i := 991) (by decide +kernel), List.mem_of_getElem? (i := 992) (by decide +kernel)⟩
theorem lw_p81 : lw_okq (⟨"MinuteForTheUnreadModel", "isWord", "(IIIIIIII)Z"⟩, 55) := ⟨⟨by decide +kernel, by decide +kernel⟩, List.mem_of_getElem? (i := 764) (by decide +kernel), List.mem_of_getElem? (i := 999) (by decide +kernel), List.mem_of_getElem? (i := 1000) (by decide +kernel)⟩
theorem lw_p82 : lw_okq (⟨"MinuteForTheUnreadModel", "isLetter", "(II)Z"⟩, 55) := ⟨⟨by decide +kernel, by decide +kernel⟩, List.mem_of_getElem? (i := 764) (by decide +kernel), List.mem_of_getElem? (i := 1003) (by decide +kernel), List.mem_of_getElem? (i := 1004) (by decide +kernel)⟩
theorem lw_p83 : lw_okq (⟨"MinuteForTheUnreadModel", "part", "(Z)I"⟩, 55) := ⟨⟨by decide +kernel, by decide +kernel⟩, List.mem_of_getElem? (i := 764) (by decide +kernel), List.mem_of_getElem? (i := 1007) (by decide +kernel), List.mem_of_getElem? (i := 1008) (by decide +kernel)⟩
theorem lw_p84 : lw_okq (⟨"MinuteForTheUnreadModel", "fail", "()V"⟩, 55) := ⟨⟨by decide +kernel, by decide +kernel⟩, List.mem_of_getElem? (i := 764) (by decide +kernel), List.mem_of_getElem? (i := 1011) (by decide +kernel), List.mem_of_getElem? (i := 1012) (by decide +kernel)⟩
theorem lw_p85 : lw_okq (⟨"MinuteForTheUnreadModel", "either", "()I"⟩, 55) := ⟨⟨by decide +kernel, by decide +kernel⟩, List.mem_of_getElem? (i := 764) (by decide +kernel), List.mem_of_getElem? (i := 1015) (by decide +kernel), List.mem_of_getElem? (i := 1016) (by decide +kernel)⟩
theorem lw_p86 : lw_okq (⟨"MinuteForTheUnreadModel", "both", "()I"⟩, 55) := ⟨⟨by decide +kernel, by decide +kernel⟩, List.mem_of_getElem? (i := 764) (by decide +kernel), List.mem_of_getElem? (i := 1019) (by decide +kernel), List.mem_of_getElem? (i := 1020) (by decide +kernel)⟩
theorem lw_p87 : lw_okq (⟨"MinuteForTheUnreadModel", "not", "()I"⟩, 55) := ⟨⟨by decide +kernel, by decide +kernel⟩, List.mem_of_getElem? (i := 764) (by decide +kernel), List.mem_of_getElem? (i := 1023) (by decide +kernel), List.mem_of_getElem? (i := 1024) (by decide +kernel)⟩
theorem lw_p88 : lw_okq (⟨"MinuteForTheUnreadModel", "opens", "()Z"⟩, 55) := ⟨⟨by decide +kernel, by decide +kernel⟩, List.mem_of_getElem? (i := 764) (by decide +kernel), List.mem_of_getElem? (i := 1027) (by decide +kernel), List.mem_of_getElem? (i := 1028) (by decide +kernel)⟩
theorem lw_p89 : lw_okq (⟨"MinuteForTheUnreadModel", "added", "()I"⟩, 55) := ⟨⟨by decide +kernel, by decide +kernel⟩, List.mem_of_getElem? (i := 764) (by decide +kernel), List.mem_of_getElem? (i := 1031) (by decide +kernel), List.mem_of_getElem? (i := 1032) (by decide +kernel)⟩
theorem lw_p90 : lw_okq (⟨"MinuteForTheUnreadModel", "term", "()I"⟩, 55) := ⟨⟨by decide +kernel, by decide +kernel⟩, List.mem_of_getElem? (i := 764) (by decide +kernel), List.mem_of_getElem? (i := 1035) (by decide +kernel), List.mem_of_getElem? (i := 1036) (by decide +kernel)⟩
theorem lw_p91 : lw_okq (⟨"MinuteForTheUnreadModel", "atom", "()I"⟩, 55) := ⟨⟨by decide +kernel, by decide +kernel⟩, List.mem_of_getElem? (i := 764) (by decide +kernel), List.mem_of_getElem? (i := 1039) (by decide +kernel), List.mem_of_getElem? (i := 1040) (by decide +kernel)⟩
theorem lw_p92 : lw_okq (⟨"MinuteForTheUnreadModel", "isSign", "(I)Z"⟩, 55) := ⟨⟨by decide +kernel, by decide +kernel⟩, List.mem_of_getElem? (i := 764) (by decide +kernel), List.mem_of_getElem? (i := 1043) (by decide +kernel), List.mem_of_getElem? (i := 1044) (by decide +kernel)⟩
theorem lw_p93 : lw_okq (⟨"MinuteForTheUnreadModel", "name", "()I"⟩, 55) := ⟨⟨by decide +kernel, by decide +kernel⟩, List.mem_of_getElem? (i := 764) (by decide +kernel), List.mem_of_getElem? (i := 1047) (by decide +kernel), List.mem_of_getElem? (i := 1048) (by decide +kernel)⟩
theorem lw_p94 : lw_okq (⟨"MinuteForTheUnreadModel", "silenceOf", "(II)I"⟩, 55) := ⟨⟨by decide +kernel, by decide +kernel⟩, List.mem_of_getElem? (i := 764) (by decide +kernel), List.mem_of_getElem? (i := 1059) (by decide +kernel), List.mem_of_getElem? (i := 1060) (by decide +kernel)⟩
theorem lw_p95 : lw_okq (⟨"MinuteForTheUnreadModel", "timeOf", "(II)I"⟩, 55) := ⟨⟨by decide +kernel, by decide +kernel⟩, List.mem_of_getElem? (i := 764) (by decide +kernel), List.mem_of_getElem? (i := 1063) (by decide +kernel), List.mem_of_getElem? (i := 1064) (by decide +kernel)⟩
def lw_privs_6 : List (MethodName × Nat) := [(⟨"MinuteForTheUnreadModel", "byteAt", "(I)I"⟩, 55), (⟨"MinuteForTheUnreadModel", "isWord", "(IIIIIIII)Z"⟩, 55), (⟨"MinuteForTheUnreadModel", "isLetter", "(II)Z"⟩, 55), (⟨"MinuteForTheUnreadModel", "part", "(Z)I"⟩, 55), (⟨"MinuteForTheUnreadModel", "fail", "()V"⟩, 55), (⟨"MinuteForTheUnreadModel", "either", "()I"⟩, 55), (⟨"MinuteForTheUnreadModel", "both", "()I"⟩, 55), (⟨"MinuteForTheUnreadModel", "not", "()I"⟩, 55), (⟨"MinuteForTheUnreadModel", "opens", "()Z"⟩, 55), (⟨"MinuteForTheUnreadModel", "added", "()I"⟩, 55), (⟨"MinuteForTheUnreadModel", "term", "()I"⟩, 55), (⟨"MinuteForTheUnreadModel", "atom", "()I"⟩, 55), (⟨"MinuteForTheUnreadModel", "isSign", "(I)Z"⟩, 55), (⟨"MinuteForTheUnreadModel", "name", "()I"⟩, 55), (⟨"MinuteForTheUnreadModel", "silenceOf", "(II)I"⟩, 55), (⟨"MinuteForTheUnreadModel", "timeOf", "(II)I"⟩, 55)]
theorem lw_r6 : ∀ q ∈ lw_privs_6, lw_okq q := List.forall_mem_cons.mpr ⟨lw_p80, List.forall_mem_cons.mpr ⟨lw_p81, List.forall_mem_cons.mpr ⟨lw_p82, List.forall_mem_cons.mpr ⟨lw_p83, List.forall_mem_cons.mpr ⟨lw_p84, List.forall_mem_cons.mpr ⟨lw_p85, List.forall_mem_cons.mpr ⟨lw_p86, List.forall_mem_cons.mpr ⟨lw_p87, List.forall_mem_cons.mpr ⟨lw_p88, List.forall_mem_cons.mpr ⟨lw_p89, List.forall_mem_cons.mpr ⟨lw_p90, List.forall_mem_cons.mpr ⟨lw_p91, List.forall_mem_cons.mpr ⟨lw_p92, List.forall_mem_cons.mpr ⟨lw_p93, List.forall_mem_cons.mpr ⟨lw_p94, List.forall_mem_cons.mpr ⟨lw_p95, fun _ h => absurd h List.not_mem_nil⟩⟩⟩⟩⟩⟩⟩⟩⟩⟩⟩⟩⟩⟩⟩⟩
theorem lw_p96 : lw_okq (⟨"MinuteForTheUnreadModel", "lays", "(III)V"⟩, 55) := ⟨⟨by decide +kernel, by decide +kernel⟩, List.mem_of_getElem? (i := 764) (by decide +kernel), List.mem_of_getElem? (i := 1067) (by decide +kernel), List.mem_of_getElem? (i := 1068) (by decide +kernel)⟩
theorem lw_p97 : lw_okq (⟨"MinuteForTheUnreadModel", "leftNow", "()I"⟩, 55) := ⟨⟨by decide +kernel, by decide +kernel⟩, List.mem_of_getElem? (i := 764) (by decide +kernel), List.mem_of_getElem? (i := 1101) (by decide +kernel), List.mem_of_getElem? (i := 1102) (by decide +kernel)⟩
theorem lw_p98 : lw_okq (⟨"MinuteForTheUnreadModel", "gone", "()I"⟩, 55) := ⟨⟨by decide +kernel, by decide +kernel⟩, List.mem_of_getElem? (i := 764) (by decide +kernel), List.mem_of_getElem? (i := 1105) (by decide +kernel), List.mem_of_getElem? (i := 1106) (by decide +kernel)⟩
theorem lw_p99 : lw_okq (⟨"MinuteForTheUnreadModel", "goneBy", "(II)I"⟩, 55) := ⟨⟨by decide +kernel, by decide +kernel⟩, List.mem_of_getElem? (i := 764) (by decide +kernel), List.mem_of_getElem? (i := 1109) (by decide +kernel), List.mem_of_getElem? (i := 1110) (by decide +kernel)⟩
theorem lw_p100 : lw_okq (⟨"MinuteForTheUnreadModel", "sits", "()I"⟩, 55) := ⟨⟨by decide +kernel, by decide +kernel⟩, List.mem_of_getElem? (i := 764) (by decide +kernel), List.mem_of_getElem? (i := 1121) (by decide +kernel), List.mem_of_getElem? (i := 1122) (by decide +kernel)⟩
theorem lw_p101 : lw_okq (⟨"MinuteForTheUnreadModel", "laysAside", "()V"⟩, 55) := ⟨⟨by decide +kernel, by decide +kernel⟩, List.mem_of_getElem? (i := 764) (by decide +kernel), List.mem_of_getElem? (i := 1131) (by decide +kernel), List.mem_of_getElem? (i := 1132) (by decide +kernel)⟩
theorem lw_p102 : lw_okq (⟨"MinuteForTheUnreadModel", "doneMany", "()I"⟩, 55) := ⟨⟨by decide +kernel, by decide +kernel⟩, List.mem_of_getElem? (i := 764) (by decide +kernel), List.mem_of_getElem? (i := 1135) (by decide +kernel), List.mem_of_getElem? (i := 1136) (by decide +kernel)⟩
theorem lw_p103 : lw_okq (⟨"MinuteForTheUnreadModel", "laysBack", "()V"⟩, 55) := ⟨⟨by decide +kernel, by decide +kernel⟩, List.mem_of_getElem? (i := 764) (by decide +kernel), List.mem_of_getElem? (i := 1139) (by decide +kernel), List.mem_of_getElem? (i := 1140) (by decide +kernel)⟩
theorem lw_p104 : lw_okq (⟨"MinuteForTheUnreadModel", "doneAt", "(I)I"⟩, 55) := ⟨⟨by decide +kernel, by decide +kernel⟩, List.mem_of_getElem? (i := 764) (by decide +kernel), List.mem_of_getElem? (i := 1155) (by decide +kernel), List.mem_of_getElem? (i := 1156) (by decide +kernel)⟩
theorem lw_p105 : lw_okq (⟨"MinuteForTheUnreadModel", "seeks", "(IIII)V"⟩, 55) := ⟨⟨by decide +kernel, by decide +kernel⟩, List.mem_of_getElem? (i := 764) (by decide +kernel), List.mem_of_getElem? (i := 1168) (by decide +kernel), List.mem_of_getElem? (i := 1169) (by decide +kernel)⟩
theorem lw_p106 : lw_okq (⟨"MinuteForTheUnreadModel", "sittingFor", "(I)I"⟩, 55) := ⟨⟨by decide +kernel, by decide +kernel⟩, List.mem_of_getElem? (i := 764) (by decide +kernel), List.mem_of_getElem? (i := 1172) (by decide +kernel), List.mem_of_getElem? (i := 1173) (by decide +kernel)⟩
theorem lw_p107 : lw_okq (⟨"MinuteForTheUnreadModel", "looks", "(I)V"⟩, 55) := ⟨⟨by decide +kernel, by decide +kernel⟩, List.mem_of_getElem? (i := 764) (by decide +kernel), List.mem_of_getElem? (i := 1188) (by decide +kernel), List.mem_of_getElem? (i := 1189) (by decide +kernel)⟩
theorem lw_p108 : lw_okq (⟨"MinuteForTheUnreadModel", "draws", "(I)V"⟩, 55) := ⟨⟨by decide +kernel, by decide +kernel⟩, List.mem_of_getElem? (i := 764) (by decide +kernel), List.mem_of_getElem? (i := 1205) (by decide +kernel), List.mem_of_getElem? (i := 1206) (by decide +kernel)⟩
theorem lw_p109 : lw_okq (⟨"MinuteForTheUnreadModel", "bribesAgain", "()V"⟩, 55) := ⟨⟨by decide +kernel, by decide +kernel⟩, List.mem_of_getElem? (i := 764) (by decide +kernel), List.mem_of_getElem? (i := 1210) (by decide +kernel), List.mem_of_getElem? (i := 1211) (by decide +kernel)⟩
def lw_privs_7 : List (MethodName × Nat) := [(⟨"MinuteForTheUnreadModel", "lays", "(III)V"⟩, 55), (⟨"MinuteForTheUnreadModel", "leftNow", "()I"⟩, 55), (⟨"MinuteForTheUnreadModel", "gone", "()I"⟩, 55), (⟨"MinuteForTheUnreadModel", "goneBy", "(II)I"⟩, 55), (⟨"MinuteForTheUnreadModel", "sits", "()I"⟩, 55), (⟨"MinuteForTheUnreadModel", "laysAside", "()V"⟩, 55), (⟨"MinuteForTheUnreadModel", "doneMany", "()I"⟩, 55), (⟨"MinuteForTheUnreadModel", "laysBack", "()V"⟩, 55), (⟨"MinuteForTheUnreadModel", "doneAt", "(I)I"⟩, 55), (⟨"MinuteForTheUnreadModel", "seeks", "(IIII)V"⟩, 55), (⟨"MinuteForTheUnreadModel", "sittingFor", "(I)I"⟩, 55), (⟨"MinuteForTheUnreadModel", "looks", "(I)V"⟩, 55), (⟨"MinuteForTheUnreadModel", "draws", "(I)V"⟩, 55), (⟨"MinuteForTheUnreadModel", "bribesAgain", "()V"⟩, 55)]
theorem lw_r7 : ∀ q ∈ lw_privs_7, lw_okq q := List.forall_mem_cons.mpr ⟨lw_p96, List.forall_mem_cons.mpr ⟨lw_p97, List.forall_mem_cons.mpr ⟨lw_p98, List.forall_mem_cons.mpr ⟨lw_p99, List.forall_mem_cons.mpr ⟨lw_p100, List.forall_mem_cons.mpr ⟨lw_p101, List.forall_mem_cons.mpr ⟨lw_p102, List.forall_mem_cons.mpr ⟨lw_p103, List.forall_mem_cons.mpr ⟨lw_p104, List.forall_mem_cons.mpr ⟨lw_p105, List.forall_mem_cons.mpr ⟨lw_p106, List.forall_mem_cons.mpr ⟨lw_p107, List.forall_mem_cons.mpr ⟨lw_p108, List.forall_mem_cons.mpr ⟨lw_p109, fun _ h => absurd h List.not_mem_nil⟩⟩⟩⟩⟩⟩⟩⟩⟩⟩⟩⟩⟩⟩
def lw_privs : List (MethodName × Nat) := lw_privs_1 ++ (lw_privs_2 ++ (lw_privs_3 ++ (lw_privs_4 ++ (lw_privs_5 ++ (lw_privs_6 ++ (lw_privs_7))))))
def lw_tbl : List Cond := k2_sels lw_privs ++ tables_1
theorem lw_privs_ok : ∀ q ∈ lw_privs, lw_okq q := by
  show ∀ q ∈ lw_privs_1 ++ (lw_privs_2 ++ (lw_privs_3 ++ (lw_privs_4 ++ (lw_privs_5 ++ (lw_privs_6 ++ (lw_privs_7)))))), lw_okq q
  exact List.forall_mem_append.mpr ⟨lw_r1, List.forall_mem_append.mpr ⟨lw_r2, List.forall_mem_append.mpr ⟨lw_r3, List.forall_mem_append.mpr ⟨lw_r4, List.forall_mem_append.mpr ⟨lw_r5, List.forall_mem_append.mpr ⟨lw_r6, lw_r7⟩⟩⟩⟩⟩⟩
end
section
def RX0 : String := "MinuteForTheUnread$Council"
def TX0 : u_T := fun k => match k with
  | 0 => ("MinuteForTheUnread$Council", "texts", "LMinuteForTheUnread$Texts;", true)
  | 1 => ("MinuteForTheUnread$Council", "names", "[I", true)
  | 2 => ("MinuteForTheUnread$Council", "sitting", "I", false)
  | 3 => ("MinuteForTheUnread$Council", "length", "I", false)
  | 4 => ("MinuteForTheUnread$Council", "rule", "I", false)
  | 5 => ("MinuteForTheUnread$Council", "citizens", "I", false)
  | 6 => ("MinuteForTheUnread$Council", "kinds", "[I", true)
  | 7 => ("MinuteForTheUnread$Council", "numbers", "[I", true)
  | 8 => ("MinuteForTheUnread$Council", "bribes", "[I", true)
  | 9 => ("MinuteForTheUnread$Council", "items", "I", false)
  | 10 => ("MinuteForTheUnread$Council", "takes", "[I", true)
  | 11 => ("MinuteForTheUnread$Council", "soFar", "[I", true)
  | _ => ("MinuteForTheUnread$Council", "doneAt", "[I", true)
def tyX0 : Nat → FieldType := fun k => match k with
  | 0 => .object "MinuteForTheUnread$Texts"
  | 1 => .array .int
  | 2 => .int
  | 3 => .int
  | 4 => .int
  | 5 => .int
  | 6 => .array .int
  | 7 => .array .int
  | 8 => .array .int
  | 9 => .int
  | 10 => .array .int
  | 11 => .array .int
  | _ => .array .int
abbrev wsX00 : List Cond := u_ws RX0 TX0 13
theorem nmX0 : ∀ a, a < 13 → ∀ b, b < 13 → a ≠ b → (TX0 a).2.1 ≠ (TX0 b).2.1 := by decide +kernel
theorem tyX0_ok : ∀ k, k < 13 → parseFieldDescriptor (TX0 k).2.2.1 = some (tyX0 k) := by decide +kernel
abbrev cX0_init : ByteArray := prog_2_method_1_code
def yX0_init : MethodName := ⟨RX0, "<init>", "(LMinuteForTheUnread$Texts;)V"⟩
abbrev cX0_become : ByteArray := prog_2_method_2_code
def yX0_become : MethodName := ⟨RX0, "become", "(LMinuteForTheUnread$Council;)V"⟩
abbrev cX0_hasCitizen : ByteArray := prog_2_method_3_code
def yX0_hasCitizen : MethodName := ⟨RX0, "hasCitizen", "(I)Z"⟩
abbrev cX0_hasItem : ByteArray := prog_2_method_4_code
def yX0_hasItem : MethodName := ⟨RX0, "hasItem", "(I)Z"⟩
abbrev cX0_everyone : ByteArray := prog_2_method_5_code
def yX0_everyone : MethodName := ⟨RX0, "everyone", "()I"⟩
abbrev cX0_addCitizen : ByteArray := prog_2_method_6_code
def yX0_addCitizen : MethodName := ⟨RX0, "addCitizen", "(II)I"⟩
abbrev cX0_addItem : ByteArray := prog_2_method_7_code
def yX0_addItem : MethodName := ⟨RX0, "addItem", "(I)I"⟩
abbrev cX0_kindOf : ByteArray := prog_2_method_8_code
def yX0_kindOf : MethodName := ⟨RX0, "kindOf", "(I)I"⟩
abbrev cX0_numberOf : ByteArray := prog_2_method_9_code
def yX0_numberOf : MethodName := ⟨RX0, "numberOf", "(I)I"⟩
abbrev cX0_bribeOf : ByteArray := prog_2_method_10_code
def yX0_bribeOf : MethodName := ⟨RX0, "bribeOf", "(I)I"⟩
abbrev cX0_putKind : ByteArray := prog_2_method_11_code
def yX0_putKind : MethodName := ⟨RX0, "putKind", "(II)V"⟩
abbrev cX0_putNumber : ByteArray := prog_2_method_12_code
def yX0_putNumber : MethodName := ⟨RX0, "putNumber", "(II)V"⟩
abbrev cX0_putBribe : ByteArray := prog_2_method_13_code
def yX0_putBribe : MethodName := ⟨RX0, "putBribe", "(II)V"⟩
abbrev cX0_takesOf : ByteArray := prog_2_method_14_code
def yX0_takesOf : MethodName := ⟨RX0, "takesOf", "(I)I"⟩
abbrev cX0_soFarOf : ByteArray := prog_2_method_15_code
def yX0_soFarOf : MethodName := ⟨RX0, "soFarOf", "(I)I"⟩
abbrev cX0_doneAt : ByteArray := prog_2_method_16_code
def yX0_doneAt : MethodName := ⟨RX0, "doneAt", "(I)I"⟩
abbrev cX0_itemsDone : ByteArray := prog_2_method_17_code
def yX0_itemsDone : MethodName := ⟨RX0, "itemsDone", "()I"⟩
abbrev cX0_drawBribes : ByteArray := prog_2_method_18_code
def yX0_drawBribes : MethodName := ⟨RX0, "drawBribes", "(I)V"⟩
abbrev cX0_lookAt : ByteArray := prog_2_method_19_code
def yX0_lookAt : MethodName := ⟨RX0, "lookAt", "(II)V"⟩
abbrev cX0_isRead : ByteArray := prog_2_method_20_code
def yX0_isRead : MethodName := ⟨RX0, "isRead", "(II)Z"⟩
abbrev cX0_silenceOf : ByteArray := prog_2_method_21_code
def yX0_silenceOf : MethodName := ⟨RX0, "silenceOf", "(II)I"⟩
abbrev cX0_timeOf : ByteArray := prog_2_method_22_code
def yX0_timeOf : MethodName := ⟨RX0, "timeOf", "(II)I"⟩
abbrev cX0_listed : ByteArray := prog_2_method_23_code
def yX0_listed : MethodName := ⟨RX0, "listed", "()I"⟩
abbrev cX0_spentOn : ByteArray := prog_2_method_24_code
def yX0_spentOn : MethodName := ⟨RX0, "spentOn", "(II)I"⟩
abbrev cX0_spentBy : ByteArray := prog_2_method_25_code
def yX0_spentBy : MethodName := ⟨RX0, "spentBy", "(I)I"⟩
abbrev cX0_spentByList : ByteArray := prog_2_method_26_code
def yX0_spentByList : MethodName := ⟨RX0, "spentByList", "()I"⟩
abbrev cX0_minutesLeft : ByteArray := prog_2_method_27_code
def yX0_minutesLeft : MethodName := ⟨RX0, "minutesLeft", "()I"⟩
abbrev cX0_hold : ByteArray := prog_2_method_28_code
def yX0_hold : MethodName := ⟨RX0, "hold", "()I"⟩
abbrev cX0_goOnWith : ByteArray := prog_2_method_29_code
def yX0_goOnWith : MethodName := ⟨RX0, "goOnWith", "(II)I"⟩
abbrev cX0_doneWithin : ByteArray := prog_2_method_30_code
def yX0_doneWithin : MethodName := ⟨RX0, "doneWithin", "(II)I"⟩
def RX1 : String := "MinuteForTheUnread$Kinds"
def TX1 : u_T := fun k => match k with
  | _ => ("", "", "", false)
def tyX1 : Nat → FieldType := fun k => match k with
  | _ => .int
abbrev wsX10 : List Cond := u_ws RX1 TX1 0
theorem nmX1 : ∀ a, a < 0 → ∀ b, b < 0 → a ≠ b → (TX1 a).2.1 ≠ (TX1 b).2.1 := by decide +kernel
theorem tyX1_ok : ∀ k, k < 0 → parseFieldDescriptor (TX1 k).2.2.1 = some (tyX1 k) := by decide +kernel
abbrev cX1_isOne : ByteArray := prog_3_method_2_code
def yX1_isOne : MethodName := ⟨RX1, "isOne", "(I)Z"⟩
abbrev cX1_above : ByteArray := prog_3_method_3_code
def yX1_above : MethodName := ⟨RX1, "above", "(I)I"⟩
abbrev cX1_isUnder : ByteArray := prog_3_method_4_code
def yX1_isUnder : MethodName := ⟨RX1, "isUnder", "(II)Z"⟩
abbrev cX1_isRead : ByteArray := prog_3_method_5_code
def yX1_isRead : MethodName := ⟨RX1, "isRead", "(IZIII)Z"⟩
abbrev cX1_silence : ByteArray := prog_3_method_6_code
def yX1_silence : MethodName := ⟨RX1, "silence", "(III)I"⟩
abbrev cX1_time : ByteArray := prog_3_method_7_code
def yX1_time : MethodName := ⟨RX1, "time", "(IIII)I"⟩
def RX2 : String := "MinuteForTheUnread$Orders"
def TX2 : u_T := fun k => match k with
  | 0 => ("MinuteForTheUnread$Orders", "rests", "[I", true)
  | 1 => ("MinuteForTheUnread$Orders", "minutesTill", "[I", true)
  | 2 => ("MinuteForTheUnread$Orders", "firstSitting", "I", false)
  | 3 => ("MinuteForTheUnread$Orders", "bestDigits", "I", false)
  | _ => ("MinuteForTheUnread$Orders", "leastSum", "I", false)
def tyX2 : Nat → FieldType := fun k => match k with
  | 0 => .array .int
  | 1 => .array .int
  | 2 => .int
  | 3 => .int
  | _ => .int
abbrev wsX20 : List Cond := u_ws RX2 TX2 5
theorem nmX2 : ∀ a, a < 5 → ∀ b, b < 5 → a ≠ b → (TX2 a).2.1 ≠ (TX2 b).2.1 := by decide +kernel
theorem tyX2_ok : ∀ k, k < 5 → parseFieldDescriptor (TX2 k).2.2.1 = some (tyX2 k) := by decide +kernel
abbrev cX2_init : ByteArray := prog_4_method_1_code
def yX2_init : MethodName := ⟨RX2, "<init>", "()V"⟩
abbrev cX2_weigh : ByteArray := prog_4_method_2_code
def yX2_weigh : MethodName := ⟨RX2, "weigh", "(LMinuteForTheUnread$Council;)V"⟩
abbrev cX2_tryAll : ByteArray := prog_4_method_3_code
def yX2_tryAll : MethodName := ⟨RX2, "tryAll", "(IIIII)V"⟩
abbrev cX2_sittingAfter : ByteArray := prog_4_method_4_code
def yX2_sittingAfter : MethodName := ⟨RX2, "sittingAfter", "(I)I"⟩
def RX3 : String := "MinuteForTheUnread$Reader"
def TX3 : u_T := fun k => match k with
  | 0 => ("MinuteForTheUnread$Reader", "texts", "LMinuteForTheUnread$Texts;", true)
  | 1 => ("MinuteForTheUnread$Reader", "tape", "[I", true)
  | 2 => ("MinuteForTheUnread$Reader", "size", "I", false)
  | 3 => ("MinuteForTheUnread$Reader", "place", "I", false)
  | 4 => ("MinuteForTheUnread$Reader", "first", "I", false)
  | 5 => ("MinuteForTheUnread$Reader", "token", "I", false)
  | _ => ("MinuteForTheUnread$Reader", "number", "I", false)
def tyX3 : Nat → FieldType := fun k => match k with
  | 0 => .object "MinuteForTheUnread$Texts"
  | 1 => .array .int
  | 2 => .int
  | 3 => .int
  | 4 => .int
  | 5 => .int
  | _ => .int
abbrev wsX30 : List Cond := u_ws RX3 TX3 7
theorem nmX3 : ∀ a, a < 7 → ∀ b, b < 7 → a ≠ b → (TX3 a).2.1 ≠ (TX3 b).2.1 := by decide +kernel
theorem tyX3_ok : ∀ k, k < 7 → parseFieldDescriptor (TX3 k).2.2.1 = some (tyX3 k) := by decide +kernel
abbrev cX3_init : ByteArray := prog_5_method_1_code
def yX3_init : MethodName := ⟨RX3, "<init>", "(LMinuteForTheUnread$Texts;)V"⟩
abbrev cX3_addByte : ByteArray := prog_5_method_2_code
def yX3_addByte : MethodName := ⟨RX3, "addByte", "(I)I"⟩
abbrev cX3_readTape : ByteArray := prog_5_method_3_code
def yX3_readTape : MethodName := ⟨RX3, "readTape", "()I"⟩
abbrev cX3_passed : ByteArray := prog_5_method_4_code
def yX3_passed : MethodName := ⟨RX3, "passed", "(I)Z"⟩
abbrev cX3_readOr : ByteArray := prog_5_method_5_code
def yX3_readOr : MethodName := ⟨RX3, "readOr", "(I)Z"⟩
abbrev cX3_readAnd : ByteArray := prog_5_method_6_code
def yX3_readAnd : MethodName := ⟨RX3, "readAnd", "(I)Z"⟩
abbrev cX3_readNot : ByteArray := prog_5_method_7_code
def yX3_readNot : MethodName := ⟨RX3, "readNot", "(I)Z"⟩
abbrev cX3_readComparison : ByteArray := prog_5_method_8_code
def yX3_readComparison : MethodName := ⟨RX3, "readComparison", "(I)Z"⟩
abbrev cX3_readSum : ByteArray := prog_5_method_9_code
def yX3_readSum : MethodName := ⟨RX3, "readSum", "(I)Z"⟩
abbrev cX3_readTerm : ByteArray := prog_5_method_10_code
def yX3_readTerm : MethodName := ⟨RX3, "readTerm", "(I)Z"⟩
abbrev cX3_readOne : ByteArray := prog_5_method_11_code
def yX3_readOne : MethodName := ⟨RX3, "readOne", "(I)Z"⟩
abbrev cX3_passToken : ByteArray := prog_5_method_12_code
def yX3_passToken : MethodName := ⟨RX3, "passToken", "()V"⟩
abbrev cX3_isBlank : ByteArray := prog_5_method_13_code
def yX3_isBlank : MethodName := ⟨RX3, "isBlank", "(I)Z"⟩
abbrev cX3_isLetter : ByteArray := prog_5_method_14_code
def yX3_isLetter : MethodName := ⟨RX3, "isLetter", "(I)Z"⟩
abbrev cX3_isDigit : ByteArray := prog_5_method_15_code
def yX3_isDigit : MethodName := ⟨RX3, "isDigit", "(I)Z"⟩
abbrev cX3_isSign : ByteArray := prog_5_method_16_code
def yX3_isSign : MethodName := ⟨RX3, "isSign", "(I)Z"⟩
abbrev cX3_passNumber : ByteArray := prog_5_method_17_code
def yX3_passNumber : MethodName := ⟨RX3, "passNumber", "()I"⟩
abbrev cX3_passWord : ByteArray := prog_5_method_18_code
def yX3_passWord : MethodName := ⟨RX3, "passWord", "()I"⟩
abbrev cX3_isSpelt : ByteArray := prog_5_method_19_code
def yX3_isSpelt : MethodName := ⟨RX3, "isSpelt", "(Ljava/lang/String;)Z"⟩
abbrev cX3_spelling : ByteArray := prog_5_method_20_code
def yX3_spelling : MethodName := ⟨RX3, "spelling", "(I)Ljava/lang/String;"⟩
def RX4 : String := "MinuteForTheUnread$Sheets"
def TX4 : u_T := fun k => match k with
  | 0 => ("MinuteForTheUnread$Sheets", "sorts", "[I", true)
  | 1 => ("MinuteForTheUnread$Sheets", "sizes", "[I", true)
  | _ => ("MinuteForTheUnread$Sheets", "cells", "[I", true)
def tyX4 : Nat → FieldType := fun k => match k with
  | 0 => .array .int
  | 1 => .array .int
  | _ => .array .int
abbrev wsX40 : List Cond := u_ws RX4 TX4 3
theorem nmX4 : ∀ a, a < 3 → ∀ b, b < 3 → a ≠ b → (TX4 a).2.1 ≠ (TX4 b).2.1 := by decide +kernel
theorem tyX4_ok : ∀ k, k < 3 → parseFieldDescriptor (TX4 k).2.2.1 = some (tyX4 k) := by decide +kernel
abbrev cX4_init : ByteArray := prog_6_method_1_code
def yX4_init : MethodName := ⟨RX4, "<init>", "()V"⟩
abbrev cX4_isSort : ByteArray := prog_6_method_2_code
def yX4_isSort : MethodName := ⟨RX4, "isSort", "(I)Z"⟩
abbrev cX4_hasPlace : ByteArray := prog_6_method_3_code
def yX4_hasPlace : MethodName := ⟨RX4, "hasPlace", "(I)Z"⟩
abbrev cX4_sortOf : ByteArray := prog_6_method_4_code
def yX4_sortOf : MethodName := ⟨RX4, "sortOf", "(I)I"⟩
abbrev cX4_sizeOf : ByteArray := prog_6_method_5_code
def yX4_sizeOf : MethodName := ⟨RX4, "sizeOf", "(I)I"⟩
abbrev cX4_isMissing : ByteArray := prog_6_method_6_code
def yX4_isMissing : MethodName := ⟨RX4, "isMissing", "(I)Z"⟩
abbrev cX4_hasItem : ByteArray := prog_6_method_7_code
def yX4_hasItem : MethodName := ⟨RX4, "hasItem", "(II)Z"⟩
abbrev cX4_hasItems : ByteArray := prog_6_method_8_code
def yX4_hasItems : MethodName := ⟨RX4, "hasItems", "(III)Z"⟩
abbrev cX4_lay : ByteArray := prog_6_method_9_code
def yX4_lay : MethodName := ⟨RX4, "lay", "(III)V"⟩
abbrev cX4_store : ByteArray := prog_6_method_10_code
def yX4_store : MethodName := ⟨RX4, "store", "(III)V"⟩
abbrev cX4_valueAt : ByteArray := prog_6_method_11_code
def yX4_valueAt : MethodName := ⟨RX4, "valueAt", "(II)I"⟩
abbrev cX4_move : ByteArray := prog_6_method_12_code
def yX4_move : MethodName := ⟨RX4, "move", "(IIIII)V"⟩
def RX5 : String := "MinuteForTheUnread$Texts"
def TX5 : u_T := fun k => match k with
  | 0 => ("MinuteForTheUnread$Texts", "many", "I", false)
  | 1 => ("MinuteForTheUnread$Texts", "used", "I", false)
  | 2 => ("MinuteForTheUnread$Texts", "cells", "[I", true)
  | 3 => ("MinuteForTheUnread$Texts", "ends", "[I", true)
  | _ => ("MinuteForTheUnread$Texts", "stack", "[I", true)
def tyX5 : Nat → FieldType := fun k => match k with
  | 0 => .int
  | 1 => .int
  | 2 => .array .int
  | 3 => .array .int
  | _ => .array .int
abbrev wsX50 : List Cond := u_ws RX5 TX5 5
theorem nmX5 : ∀ a, a < 5 → ∀ b, b < 5 → a ≠ b → (TX5 a).2.1 ≠ (TX5 b).2.1 := by decide +kernel
theorem tyX5_ok : ∀ k, k < 5 → parseFieldDescriptor (TX5 k).2.2.1 = some (tyX5 k) := by decide +kernel
abbrev cX5_init : ByteArray := prog_7_method_1_code
def yX5_init : MethodName := ⟨RX5, "<init>", "()V"⟩
abbrev cX5_cellOfName : ByteArray := prog_7_method_2_code
def yX5_cellOfName : MethodName := ⟨RX5, "cellOfName", "(I)I"⟩
abbrev cX5_isFull : ByteArray := prog_7_method_3_code
def yX5_isFull : MethodName := ⟨RX5, "isFull", "()Z"⟩
abbrev cX5_hasText : ByteArray := prog_7_method_4_code
def yX5_hasText : MethodName := ⟨RX5, "hasText", "(I)Z"⟩
abbrev cX5_begin : ByteArray := prog_7_method_5_code
def yX5_begin : MethodName := ⟨RX5, "begin", "()V"⟩
abbrev cX5_put : ByteArray := prog_7_method_6_code
def yX5_put : MethodName := ⟨RX5, "put", "(I)V"⟩
abbrev cX5_endPart : ByteArray := prog_7_method_7_code
def yX5_endPart : MethodName := ⟨RX5, "endPart", "(I)V"⟩
abbrev cX5_keep : ByteArray := prog_7_method_8_code
def yX5_keep : MethodName := ⟨RX5, "keep", "()I"⟩
abbrev cX5_value : ByteArray := prog_7_method_9_code
def yX5_value : MethodName := ⟨RX5, "value", "(II[I)I"⟩
abbrev cX5_valueOfName : ByteArray := prog_7_method_10_code
def yX5_valueOfName : MethodName := ⟨RX5, "valueOfName", "(I[I)I"⟩
abbrev cX5_ofBoth : ByteArray := prog_7_method_11_code
def yX5_ofBoth : MethodName := ⟨RX5, "ofBoth", "(III)I"⟩
def RX6 : String := "MinuteForTheUnread"
def TX6 : u_T := fun k => match k with
  | 0 => ("MinuteForTheUnread", "texts", "LMinuteForTheUnread$Texts;", true)
  | 1 => ("MinuteForTheUnread", "reader", "LMinuteForTheUnread$Reader;", true)
  | 2 => ("MinuteForTheUnread", "council", "LMinuteForTheUnread$Council;", true)
  | 3 => ("MinuteForTheUnread", "thought", "LMinuteForTheUnread$Council;", true)
  | 4 => ("MinuteForTheUnread", "kept", "LMinuteForTheUnread$Council;", true)
  | 5 => ("MinuteForTheUnread", "imageIsKept", "Z", false)
  | 6 => ("MinuteForTheUnread", "orders", "LMinuteForTheUnread$Orders;", true)
  | _ => ("MinuteForTheUnread", "sheets", "LMinuteForTheUnread$Sheets;", true)
def tyX6 : Nat → FieldType := fun k => match k with
  | 0 => .object "MinuteForTheUnread$Texts"
  | 1 => .object "MinuteForTheUnread$Reader"
  | 2 => .object "MinuteForTheUnread$Council"
  | 3 => .object "MinuteForTheUnread$Council"
  | 4 => .object "MinuteForTheUnread$Council"
  | 5 => .boolean
  | 6 => .object "MinuteForTheUnread$Orders"
  | _ => .object "MinuteForTheUnread$Sheets"
abbrev wsX60 : List Cond := u_ws RX6 TX6 8
theorem nmX6 : ∀ a, a < 8 → ∀ b, b < 8 → a ≠ b → (TX6 a).2.1 ≠ (TX6 b).2.1 := by decide +kernel
theorem tyX6_ok : ∀ k, k < 8 → parseFieldDescriptor (TX6 k).2.2.1 = some (tyX6 k) := by decide +kernel
abbrev cX6_init : ByteArray := prog_1_method_1_code
def yX6_init : MethodName := ⟨RX6, "<init>", "()V"⟩
abbrev cX6_set : ByteArray := prog_1_method_2_code
def yX6_set : MethodName := ⟨RX6, "set", "(III)I"⟩
abbrev cX6_highest : ByteArray := prog_1_method_3_code
def yX6_highest : MethodName := ⟨RX6, "highest", "(I)I"⟩
abbrev cX6_citizen : ByteArray := prog_1_method_4_code
def yX6_citizen : MethodName := ⟨RX6, "citizen", "(II)I"⟩
abbrev cX6_business : ByteArray := prog_1_method_5_code
def yX6_business : MethodName := ⟨RX6, "business", "(I)I"⟩
abbrev cX6_told : ByteArray := prog_1_method_6_code
def yX6_told : MethodName := ⟨RX6, "told", "(II)I"⟩
abbrev cX6_toldOfCitizen : ByteArray := prog_1_method_7_code
def yX6_toldOfCitizen : MethodName := ⟨RX6, "toldOfCitizen", "(II)I"⟩
abbrev cX6_toldOfItem : ByteArray := prog_1_method_8_code
def yX6_toldOfItem : MethodName := ⟨RX6, "toldOfItem", "(II)I"⟩
abbrev cX6_feed : ByteArray := prog_1_method_9_code
def yX6_feed : MethodName := ⟨RX6, "feed", "(I)I"⟩
abbrev cX6_text : ByteArray := prog_1_method_10_code
def yX6_text : MethodName := ⟨RX6, "text", "()I"⟩
abbrev cX6_force : ByteArray := prog_1_method_11_code
def yX6_force : MethodName := ⟨RX6, "force", "(I)I"⟩
abbrev cX6_list : ByteArray := prog_1_method_12_code
def yX6_list : MethodName := ⟨RX6, "list", "(I)I"⟩
abbrev cX6_by : ByteArray := prog_1_method_13_code
def yX6_by : MethodName := ⟨RX6, "by", "(I)I"⟩
abbrev cX6_sit : ByteArray := prog_1_method_14_code
def yX6_sit : MethodName := ⟨RX6, "sit", "()I"⟩
abbrev cX6_run : ByteArray := prog_1_method_15_code
def yX6_run : MethodName := ⟨RX6, "run", "(II)I"⟩
abbrev cX6_shortest : ByteArray := prog_1_method_16_code
def yX6_shortest : MethodName := ⟨RX6, "shortest", "(I)I"⟩
abbrev cX6_fewest : ByteArray := prog_1_method_17_code
def yX6_fewest : MethodName := ⟨RX6, "fewest", "(I)I"⟩
abbrev cX6_soonest : ByteArray := prog_1_method_18_code
def yX6_soonest : MethodName := ⟨RX6, "soonest", "(II)I"⟩
abbrev cX6_bribe : ByteArray := prog_1_method_19_code
def yX6_bribe : MethodName := ⟨RX6, "bribe", "(I)I"⟩
abbrev cX6_order : ByteArray := prog_1_method_20_code
def yX6_order : MethodName := ⟨RX6, "order", "(I)I"⟩
abbrev cX6_turned : ByteArray := prog_1_method_21_code
def yX6_turned : MethodName := ⟨RX6, "turned", "(I)I"⟩
abbrev cX6_tells : ByteArray := prog_1_method_22_code
def yX6_tells : MethodName := ⟨RX6, "tells", "(II)I"⟩
abbrev cX6_canBeAsked : ByteArray := prog_1_method_23_code
def yX6_canBeAsked : MethodName := ⟨RX6, "canBeAsked", "(I)Z"⟩
abbrev cX6_ways : ByteArray := prog_1_method_24_code
def yX6_ways : MethodName := ⟨RX6, "ways", "(II)I"⟩
abbrev cX6_textsBy : ByteArray := prog_1_method_25_code
def yX6_textsBy : MethodName := ⟨RX6, "textsBy", "(I)I"⟩
abbrev cX6_ofOneBy : ByteArray := prog_1_method_26_code
def yX6_ofOneBy : MethodName := ⟨RX6, "ofOneBy", "(III)I"⟩
abbrev cX6_kindsBy : ByteArray := prog_1_method_27_code
def yX6_kindsBy : MethodName := ⟨RX6, "kindsBy", "(II)I"⟩
abbrev cX6_numbersBy : ByteArray := prog_1_method_28_code
def yX6_numbersBy : MethodName := ⟨RX6, "numbersBy", "(II)I"⟩
abbrev cX6_bribesBy : ByteArray := prog_1_method_29_code
def yX6_bribesBy : MethodName := ⟨RX6, "bribesBy", "(IIZ)I"⟩
abbrev cX6_film : ByteArray := prog_1_method_30_code
def yX6_film : MethodName := ⟨RX6, "film", "(I)I"⟩
abbrev cX6_drawn : ByteArray := prog_1_method_31_code
def yX6_drawn : MethodName := ⟨RX6, "drawn", "(I)I"⟩
abbrev cX6_chance : ByteArray := prog_1_method_32_code
def yX6_chance : MethodName := ⟨RX6, "chance", "(III)J"⟩
abbrev cX6_inLowestTerms : ByteArray := prog_1_method_33_code
def yX6_inLowestTerms : MethodName := ⟨RX6, "inLowestTerms", "(III)I"⟩
abbrev cX6_image : ByteArray := prog_1_method_34_code
def yX6_image : MethodName := ⟨RX6, "image", "()I"⟩
abbrev cX6_back : ByteArray := prog_1_method_35_code
def yX6_back : MethodName := ⟨RX6, "back", "()I"⟩
abbrev cX6_count : ByteArray := prog_1_method_36_code
def yX6_count : MethodName := ⟨RX6, "count", "(I)I"⟩
abbrev cX6_sheet : ByteArray := prog_1_method_37_code
def yX6_sheet : MethodName := ⟨RX6, "sheet", "(III)I"⟩
abbrev cX6_cell : ByteArray := prog_1_method_38_code
def yX6_cell : MethodName := ⟨RX6, "cell", "(III)I"⟩
abbrev cX6_copy : ByteArray := prog_1_method_39_code
def yX6_copy : MethodName := ⟨RX6, "copy", "(IIIII)I"⟩
abbrev cX6_citizens : ByteArray := prog_1_method_40_code
def yX6_citizens : MethodName := ⟨RX6, "citizens", "(IIII)I"⟩
abbrev cX6_taken : ByteArray := prog_1_method_41_code
def yX6_taken : MethodName := ⟨RX6, "taken", "(II)I"⟩
def RX7 : String := "MinuteForTheUnreadModel"
def TX7 : u_T := fun k => match k with
  | 0 => ("MinuteForTheUnreadModel", "thrown", "I", false)
  | 1 => ("MinuteForTheUnreadModel", "texts", "[I", true)
  | 2 => ("MinuteForTheUnreadModel", "textSize", "[I", true)
  | 3 => ("MinuteForTheUnreadModel", "textCount", "I", false)
  | 4 => ("MinuteForTheUnreadModel", "rule", "I", false)
  | 5 => ("MinuteForTheUnreadModel", "tape", "[I", true)
  | 6 => ("MinuteForTheUnreadModel", "taped", "I", false)
  | 7 => ("MinuteForTheUnreadModel", "sitting", "I", false)
  | 8 => ("MinuteForTheUnreadModel", "length", "I", false)
  | 9 => ("MinuteForTheUnreadModel", "kinds", "[I", true)
  | 10 => ("MinuteForTheUnreadModel", "numbers", "[I", true)
  | 11 => ("MinuteForTheUnreadModel", "bribes", "[I", true)
  | 12 => ("MinuteForTheUnreadModel", "many", "I", false)
  | 13 => ("MinuteForTheUnreadModel", "items1", "[I", true)
  | 14 => ("MinuteForTheUnreadModel", "itemMany", "I", false)
  | 15 => ("MinuteForTheUnreadModel", "ofNumber", "I", false)
  | 16 => ("MinuteForTheUnreadModel", "ofBribe", "I", false)
  | 17 => ("MinuteForTheUnreadModel", "ofSitting", "I", false)
  | 18 => ("MinuteForTheUnreadModel", "ofRead", "I", false)
  | 19 => ("MinuteForTheUnreadModel", "ofRank", "I", false)
  | 20 => ("MinuteForTheUnreadModel", "ofAsked", "I", false)
  | 21 => ("MinuteForTheUnreadModel", "from", "I", false)
  | 22 => ("MinuteForTheUnreadModel", "size", "I", false)
  | 23 => ("MinuteForTheUnreadModel", "here", "I", false)
  | 24 => ("MinuteForTheUnreadModel", "token", "I", false)
  | 25 => ("MinuteForTheUnreadModel", "tokenAt", "I", false)
  | 26 => ("MinuteForTheUnreadModel", "tokenWorth", "J", false)
  | 27 => ("MinuteForTheUnreadModel", "open", "I", false)
  | 28 => ("MinuteForTheUnreadModel", "bad", "Z", false)
  | 29 => ("MinuteForTheUnreadModel", "fault", "I", false)
  | 30 => ("MinuteForTheUnreadModel", "keptOf", "[J", true)
  | 31 => ("MinuteForTheUnreadModel", "keptWas", "[I", true)
  | 32 => ("MinuteForTheUnreadModel", "leftOver", "I", false)
  | 33 => ("MinuteForTheUnreadModel", "itemsWas", "[I", true)
  | 34 => ("MinuteForTheUnreadModel", "sittingWas", "I", false)
  | 35 => ("MinuteForTheUnreadModel", "leftBy", "[I", true)
  | 36 => ("MinuteForTheUnreadModel", "bestDigits", "I", false)
  | 37 => ("MinuteForTheUnreadModel", "bestSum", "I", false)
  | 38 => ("MinuteForTheUnreadModel", "ways", "I", false)
  | 39 => ("MinuteForTheUnreadModel", "firstWay", "I", false)
  | 40 => ("MinuteForTheUnreadModel", "byAll", "I", false)
  | 41 => ("MinuteForTheUnreadModel", "byAny", "I", false)
  | 42 => ("MinuteForTheUnreadModel", "bribesWas", "[I", true)
  | 43 => ("MinuteForTheUnreadModel", "numbersKept", "[I", true)
  | 44 => ("MinuteForTheUnreadModel", "bribesKept", "[I", true)
  | 45 => ("MinuteForTheUnreadModel", "itemsKept", "[I", true)
  | 46 => ("MinuteForTheUnreadModel", "manyKept", "I", false)
  | 47 => ("MinuteForTheUnreadModel", "itemsMany", "I", false)
  | 48 => ("MinuteForTheUnreadModel", "sittingKept", "I", false)
  | 49 => ("MinuteForTheUnreadModel", "lengthKept", "I", false)
  | 50 => ("MinuteForTheUnreadModel", "ruleKept", "I", false)
  | 51 => ("MinuteForTheUnreadModel", "isThere", "[Z", true)
  | 52 => ("MinuteForTheUnreadModel", "sorts", "[I", true)
  | 53 => ("MinuteForTheUnreadModel", "sheetSize", "[I", true)
  | _ => ("MinuteForTheUnreadModel", "items", "[I", true)
def tyX7 : Nat → FieldType := fun k => match k with
  | 0 => .int
  | 1 => .array .int
  | 2 => .array .int
  | 3 => .int
  | 4 => .int
  | 5 => .array .int
  | 6 => .int
  | 7 => .int
  | 8 => .int
  | 9 => .array .int
  | 10 => .array .int
  | 11 => .array .int
  | 12 => .int
  | 13 => .array .int
  | 14 => .int
  | 15 => .int
  | 16 => .int
  | 17 => .int
  | 18 => .int
  | 19 => .int
  | 20 => .int
  | 21 => .int
  | 22 => .int
  | 23 => .int
  | 24 => .int
  | 25 => .int
  | 26 => .long
  | 27 => .int
  | 28 => .boolean
  | 29 => .int
  | 30 => .array .long
  | 31 => .array .int
  | 32 => .int
  | 33 => .array .int
  | 34 => .int
  | 35 => .array .int
  | 36 => .int
  | 37 => .int
  | 38 => .int
  | 39 => .int
  | 40 => .int
  | 41 => .int
  | 42 => .array .int
  | 43 => .array .int
  | 44 => .array .int
  | 45 => .array .int
  | 46 => .int
  | 47 => .int
  | 48 => .int
  | 49 => .int
  | 50 => .int
  | 51 => .array .boolean
  | 52 => .array .int
  | 53 => .array .int
  | _ => .array .int
abbrev wsX70 : List Cond := u_ws RX7 TX7 55
theorem nmX7 : ∀ a, a < 55 → ∀ b, b < 55 → a ≠ b → (TX7 a).2.1 ≠ (TX7 b).2.1 := by decide +kernel
theorem tyX7_ok : ∀ k, k < 55 → parseFieldDescriptor (TX7 k).2.2.1 = some (tyX7 k) := by decide +kernel
abbrev cX7_in : ByteArray := prog_9_method_2_code
def yX7_in : MethodName := ⟨RX7, "in", "(JJJ)Z"⟩
abbrev cX7_within : ByteArray := prog_9_method_3_code
def yX7_within : MethodName := ⟨RX7, "within", "(III)I"⟩
abbrev cX7_init : ByteArray := prog_9_method_4_code
def yX7_init : MethodName := ⟨RX7, "<init>", "()V"⟩
abbrev cX7_spell : ByteArray := prog_9_method_5_code
def yX7_spell : MethodName := ⟨RX7, "spell", "(IIIIIIIII)V"⟩
abbrev cX7_isOne : ByteArray := prog_9_method_6_code
def yX7_isOne : MethodName := ⟨RX7, "isOne", "(I)Z"⟩
abbrev cX7_isItem : ByteArray := prog_9_method_7_code
def yX7_isItem : MethodName := ⟨RX7, "isItem", "(I)Z"⟩
abbrev cX7_mostOf : ByteArray := prog_9_method_8_code
def yX7_mostOf : MethodName := ⟨RX7, "mostOf", "(I)I"⟩
abbrev cX7_set : ByteArray := prog_9_method_9_code
def yX7_set : MethodName := ⟨RX7, "set", "(III)I"⟩
abbrev cX7_lays : ByteArray := prog_9_method_10_code
def yX7_lays : MethodName := ⟨RX7, "lays", "(III)V"⟩
abbrev cX7_citizen : ByteArray := prog_9_method_11_code
def yX7_citizen : MethodName := ⟨RX7, "citizen", "(II)I"⟩
abbrev cX7_business : ByteArray := prog_9_method_12_code
def yX7_business : MethodName := ⟨RX7, "business", "(I)I"⟩
abbrev cX7_told : ByteArray := prog_9_method_13_code
def yX7_told : MethodName := ⟨RX7, "told", "(II)I"⟩
abbrev cX7_bitsOf : ByteArray := prog_9_method_14_code
def yX7_bitsOf : MethodName := ⟨RX7, "bitsOf", "(I)I"⟩
abbrev cX7_feed : ByteArray := prog_9_method_15_code
def yX7_feed : MethodName := ⟨RX7, "feed", "(I)I"⟩
abbrev cX7_byteAt : ByteArray := prog_9_method_16_code
def yX7_byteAt : MethodName := ⟨RX7, "byteAt", "(I)I"⟩
abbrev cX7_next : ByteArray := prog_9_method_17_code
def yX7_next : MethodName := ⟨RX7, "next", "()V"⟩
abbrev cX7_fail : ByteArray := prog_9_method_18_code
def yX7_fail : MethodName := ⟨RX7, "fail", "()V"⟩
abbrev cX7_isLetter : ByteArray := prog_9_method_19_code
def yX7_isLetter : MethodName := ⟨RX7, "isLetter", "(II)Z"⟩
abbrev cX7_isWord : ByteArray := prog_9_method_20_code
def yX7_isWord : MethodName := ⟨RX7, "isWord", "(IIIIIIII)Z"⟩
abbrev cX7_isSign : ByteArray := prog_9_method_21_code
def yX7_isSign : MethodName := ⟨RX7, "isSign", "(I)Z"⟩
abbrev cX7_opens : ByteArray := prog_9_method_22_code
def yX7_opens : MethodName := ⟨RX7, "opens", "()Z"⟩
abbrev cX7_name : ByteArray := prog_9_method_23_code
def yX7_name : MethodName := ⟨RX7, "name", "()I"⟩
abbrev cX7_atom : ByteArray := prog_9_method_24_code
def yX7_atom : MethodName := ⟨RX7, "atom", "()I"⟩
abbrev cX7_term : ByteArray := prog_9_method_25_code
def yX7_term : MethodName := ⟨RX7, "term", "()I"⟩
abbrev cX7_added : ByteArray := prog_9_method_26_code
def yX7_added : MethodName := ⟨RX7, "added", "()I"⟩
abbrev cX7_not : ByteArray := prog_9_method_27_code
def yX7_not : MethodName := ⟨RX7, "not", "()I"⟩
abbrev cX7_both : ByteArray := prog_9_method_28_code
def yX7_both : MethodName := ⟨RX7, "both", "()I"⟩
abbrev cX7_either : ByteArray := prog_9_method_29_code
def yX7_either : MethodName := ⟨RX7, "either", "()I"⟩
abbrev cX7_part : ByteArray := prog_9_method_30_code
def yX7_part : MethodName := ⟨RX7, "part", "(Z)I"⟩
abbrev cX7_read : ByteArray := prog_9_method_31_code
def yX7_read : MethodName := ⟨RX7, "read", "(II)I"⟩
abbrev cX7_text : ByteArray := prog_9_method_32_code
def yX7_text : MethodName := ⟨RX7, "text", "()I"⟩
abbrev cX7_force : ByteArray := prog_9_method_33_code
def yX7_force : MethodName := ⟨RX7, "force", "(I)I"⟩
abbrev cX7_asks : ByteArray := prog_9_method_34_code
def yX7_asks : MethodName := ⟨RX7, "asks", "(III)I"⟩
abbrev cX7_isRead : ByteArray := prog_9_method_35_code
def yX7_isRead : MethodName := ⟨RX7, "isRead", "(II)Z"⟩
abbrev cX7_silenceOf : ByteArray := prog_9_method_36_code
def yX7_silenceOf : MethodName := ⟨RX7, "silenceOf", "(II)I"⟩
abbrev cX7_timeOf : ByteArray := prog_9_method_37_code
def yX7_timeOf : MethodName := ⟨RX7, "timeOf", "(II)I"⟩
abbrev cX7_listNow : ByteArray := prog_9_method_38_code
def yX7_listNow : MethodName := ⟨RX7, "listNow", "()I"⟩
abbrev cX7_goneBy : ByteArray := prog_9_method_39_code
def yX7_goneBy : MethodName := ⟨RX7, "goneBy", "(II)I"⟩
abbrev cX7_gone : ByteArray := prog_9_method_40_code
def yX7_gone : MethodName := ⟨RX7, "gone", "()I"⟩
abbrev cX7_leftNow : ByteArray := prog_9_method_41_code
def yX7_leftNow : MethodName := ⟨RX7, "leftNow", "()I"⟩
abbrev cX7_list : ByteArray := prog_9_method_42_code
def yX7_list : MethodName := ⟨RX7, "list", "(I)I"⟩
abbrev cX7_by : ByteArray := prog_9_method_43_code
def yX7_by : MethodName := ⟨RX7, "by", "(I)I"⟩
abbrev cX7_sits : ByteArray := prog_9_method_44_code
def yX7_sits : MethodName := ⟨RX7, "sits", "()I"⟩
abbrev cX7_sit : ByteArray := prog_9_method_45_code
def yX7_sit : MethodName := ⟨RX7, "sit", "()I"⟩
abbrev cX7_laysAside : ByteArray := prog_9_method_46_code
def yX7_laysAside : MethodName := ⟨RX7, "laysAside", "()V"⟩
abbrev cX7_laysBack : ByteArray := prog_9_method_47_code
def yX7_laysBack : MethodName := ⟨RX7, "laysBack", "()V"⟩
abbrev cX7_doneMany : ByteArray := prog_9_method_48_code
def yX7_doneMany : MethodName := ⟨RX7, "doneMany", "()I"⟩
abbrev cX7_run : ByteArray := prog_9_method_49_code
def yX7_run : MethodName := ⟨RX7, "run", "(II)I"⟩
abbrev cX7_shortest : ByteArray := prog_9_method_50_code
def yX7_shortest : MethodName := ⟨RX7, "shortest", "(I)I"⟩
abbrev cX7_fewest : ByteArray := prog_9_method_51_code
def yX7_fewest : MethodName := ⟨RX7, "fewest", "(I)I"⟩
abbrev cX7_doneAt : ByteArray := prog_9_method_52_code
def yX7_doneAt : MethodName := ⟨RX7, "doneAt", "(I)I"⟩
abbrev cX7_soonest : ByteArray := prog_9_method_53_code
def yX7_soonest : MethodName := ⟨RX7, "soonest", "(II)I"⟩
abbrev cX7_bribe : ByteArray := prog_9_method_54_code
def yX7_bribe : MethodName := ⟨RX7, "bribe", "(I)I"⟩
abbrev cX7_sittingFor : ByteArray := prog_9_method_55_code
def yX7_sittingFor : MethodName := ⟨RX7, "sittingFor", "(I)I"⟩
abbrev cX7_seeks : ByteArray := prog_9_method_56_code
def yX7_seeks : MethodName := ⟨RX7, "seeks", "(IIII)V"⟩
abbrev cX7_order : ByteArray := prog_9_method_57_code
def yX7_order : MethodName := ⟨RX7, "order", "(I)I"⟩
abbrev cX7_turned : ByteArray := prog_9_method_58_code
def yX7_turned : MethodName := ⟨RX7, "turned", "(I)I"⟩
abbrev cX7_looks : ByteArray := prog_9_method_59_code
def yX7_looks : MethodName := ⟨RX7, "looks", "(I)V"⟩
abbrev cX7_tells : ByteArray := prog_9_method_60_code
def yX7_tells : MethodName := ⟨RX7, "tells", "(II)I"⟩
abbrev cX7_film : ByteArray := prog_9_method_61_code
def yX7_film : MethodName := ⟨RX7, "film", "(I)I"⟩
abbrev cX7_draws : ByteArray := prog_9_method_62_code
def yX7_draws : MethodName := ⟨RX7, "draws", "(I)V"⟩
abbrev cX7_bribesAgain : ByteArray := prog_9_method_63_code
def yX7_bribesAgain : MethodName := ⟨RX7, "bribesAgain", "()V"⟩
abbrev cX7_drawn : ByteArray := prog_9_method_64_code
def yX7_drawn : MethodName := ⟨RX7, "drawn", "(I)I"⟩
abbrev cX7_chance : ByteArray := prog_9_method_65_code
def yX7_chance : MethodName := ⟨RX7, "chance", "(III)J"⟩
abbrev cX7_image : ByteArray := prog_9_method_66_code
def yX7_image : MethodName := ⟨RX7, "image", "()I"⟩
abbrev cX7_back : ByteArray := prog_9_method_67_code
def yX7_back : MethodName := ⟨RX7, "back", "()I"⟩
abbrev cX7_count : ByteArray := prog_9_method_68_code
def yX7_count : MethodName := ⟨RX7, "count", "(I)I"⟩
abbrev cX7_isSheet : ByteArray := prog_9_method_69_code
def yX7_isSheet : MethodName := ⟨RX7, "isSheet", "(I)Z"⟩
abbrev cX7_sheet : ByteArray := prog_9_method_70_code
def yX7_sheet : MethodName := ⟨RX7, "sheet", "(III)I"⟩
abbrev cX7_cell : ByteArray := prog_9_method_71_code
def yX7_cell : MethodName := ⟨RX7, "cell", "(III)I"⟩
abbrev cX7_copy : ByteArray := prog_9_method_72_code
def yX7_copy : MethodName := ⟨RX7, "copy", "(IIIII)I"⟩
abbrev cX7_citizens : ByteArray := prog_9_method_73_code
def yX7_citizens : MethodName := ⟨RX7, "citizens", "(IIII)I"⟩
abbrev cX7_over : ByteArray := prog_9_method_74_code
def yX7_over : MethodName := ⟨RX7, "over", "(I)I"⟩
abbrev cX7_taken : ByteArray := prog_9_method_75_code
def yX7_taken : MethodName := ⟨RX7, "taken", "(II)I"⟩
def RJ6 : String := "java/lang/Integer"
def TJ6 : u_T := fun k => match k with
  | _ => ("", "", "", false)
def tyJ6 : Nat → FieldType := fun k => match k with
  | _ => .int
abbrev wsJ60 : List Cond := u_ws RJ6 TJ6 0
theorem nmJ6 : ∀ a, a < 0 → ∀ b, b < 0 → a ≠ b → (TJ6 a).2.1 ≠ (TJ6 b).2.1 := by decide +kernel
theorem tyJ6_ok : ∀ k, k < 0 → parseFieldDescriptor (TJ6 k).2.2.1 = some (tyJ6 k) := by decide +kernel
abbrev cJ6_bitCount_0f7a4 : ByteArray := prog_10_method_49_code
def yJ6_bitCount_0f7a4 : MethodName := ⟨RJ6, "bitCount", "(I)I"⟩
def RJ9 : String := "java/lang/Math"
def TJ9 : u_T := fun k => match k with
  | _ => ("", "", "", false)
def tyJ9 : Nat → FieldType := fun k => match k with
  | _ => .int
abbrev wsJ90 : List Cond := u_ws RJ9 TJ9 0
theorem nmJ9 : ∀ a, a < 0 → ∀ b, b < 0 → a ≠ b → (TJ9 a).2.1 ≠ (TJ9 b).2.1 := by decide +kernel
theorem tyJ9_ok : ∀ k, k < 0 → parseFieldDescriptor (TJ9 k).2.2.1 = some (tyJ9 k) := by decide +kernel
abbrev cJ9_max_7cf53 : ByteArray := prog_11_method_65_code
def yJ9_max_7cf53 : MethodName := ⟨RJ9, "max", "(II)I"⟩
abbrev cJ9_min_7cf53 : ByteArray := prog_11_method_69_code
def yJ9_min_7cf53 : MethodName := ⟨RJ9, "min", "(II)I"⟩
def RJ0 : String := "java/lang/String"
def TJ0 : u_T := fun k => match k with
  | _ => ("", "", "", false)
def tyJ0 : Nat → FieldType := fun k => match k with
  | _ => .int
abbrev wsJ00 : List Cond := u_ws RJ0 TJ0 0
theorem nmJ0 : ∀ a, a < 0 → ∀ b, b < 0 → a ≠ b → (TJ0 a).2.1 ≠ (TJ0 b).2.1 := by decide +kernel
theorem tyJ0_ok : ∀ k, k < 0 → parseFieldDescriptor (TJ0 k).2.2.1 = some (tyJ0 k) := by decide +kernel
abbrev cJ0_length_8abf5 : ByteArray := prog_12_method_54_code
def yJ0_length_8abf5 : MethodName := ⟨RJ0, "length", "()I"⟩
abbrev cJ0_charAt_5068e : ByteArray := prog_12_method_56_code
def yJ0_charAt_5068e : MethodName := ⟨RJ0, "charAt", "(I)C"⟩
abbrev cJ0_coder_7d493 : ByteArray := prog_12_method_152_code
def yJ0_coder_7d493 : MethodName := ⟨RJ0, "coder", "()B"⟩
abbrev cJ0_isLatin1_aae02 : ByteArray := prog_12_method_154_code
def yJ0_isLatin1_aae02 : MethodName := ⟨RJ0, "isLatin1", "()Z"⟩
abbrev cJ0_checkIndex_df160 : ByteArray := prog_12_method_155_code
def yJ0_checkIndex_df160 : MethodName := ⟨RJ0, "checkIndex", "(II)V"⟩
def RJ1 : String := "java/lang/StringLatin1"
def TJ1 : u_T := fun k => match k with
  | _ => ("", "", "", false)
def tyJ1 : Nat → FieldType := fun k => match k with
  | _ => .int
abbrev wsJ10 : List Cond := u_ws RJ1 TJ1 0
theorem nmJ1 : ∀ a, a < 0 → ∀ b, b < 0 → a ≠ b → (TJ1 a).2.1 ≠ (TJ1 b).2.1 := by decide +kernel
theorem tyJ1_ok : ∀ k, k < 0 → parseFieldDescriptor (TJ1 k).2.2.1 = some (tyJ1 k) := by decide +kernel
abbrev cJ1_charAt_3b067 : ByteArray := prog_13_method_2_code
def yJ1_charAt_3b067 : MethodName := ⟨RJ1, "charAt", "([BI)C"⟩
def RJ2 : String := "java/lang/StringUTF16"
def TJ2 : u_T := fun k => match k with
  | _ => ("", "", "", false)
def tyJ2 : Nat → FieldType := fun k => match k with
  | _ => .int
abbrev wsJ20 : List Cond := u_ws RJ2 TJ2 0
theorem nmJ2 : ∀ a, a < 0 → ∀ b, b < 0 → a ≠ b → (TJ2 a).2.1 ≠ (TJ2 b).2.1 := by decide +kernel
theorem tyJ2_ok : ∀ k, k < 0 → parseFieldDescriptor (TJ2 k).2.2.1 = some (tyJ2 k) := by decide +kernel
abbrev cJ2_getChar_3b067 : ByteArray := prog_14_method_5_code
def yJ2_getChar_3b067 : MethodName := ⟨RJ2, "getChar", "([BI)C"⟩
abbrev cJ2_length_9d52b : ByteArray := prog_14_method_6_code
def yJ2_length_9d52b : MethodName := ⟨RJ2, "length", "([B)I"⟩
abbrev cJ2_charAt_3b067 : ByteArray := prog_14_method_83_code
def yJ2_charAt_3b067 : MethodName := ⟨RJ2, "charAt", "([BI)C"⟩
abbrev cJ2_checkIndex_2214a : ByteArray := prog_14_method_91_code
def yJ2_checkIndex_2214a : MethodName := ⟨RJ2, "checkIndex", "(I[B)V"⟩
def RJ10 : String := "java/lang/System"
def TJ10 : u_T := fun k => match k with
  | _ => ("", "", "", false)
def tyJ10 : Nat → FieldType := fun k => match k with
  | _ => .int
abbrev wsJ100 : List Cond := u_ws RJ10 TJ10 0
theorem nmJ10 : ∀ a, a < 0 → ∀ b, b < 0 → a ≠ b → (TJ10 a).2.1 ≠ (TJ10 b).2.1 := by decide +kernel
theorem tyJ10_ok : ∀ k, k < 0 → parseFieldDescriptor (TJ10 k).2.2.1 = some (tyJ10 k) := by decide +kernel
def RJ3 : String := "jdk/internal/util/Preconditions"
def TJ3 : u_T := fun k => match k with
  | _ => ("", "", "", false)
def tyJ3 : Nat → FieldType := fun k => match k with
  | _ => .int
abbrev wsJ30 : List Cond := u_ws RJ3 TJ3 0
theorem nmJ3 : ∀ a, a < 0 → ∀ b, b < 0 → a ≠ b → (TJ3 a).2.1 ≠ (TJ3 b).2.1 := by decide +kernel
theorem tyJ3_ok : ∀ k, k < 0 → parseFieldDescriptor (TJ3 k).2.2.1 = some (tyJ3 k) := by decide +kernel
abbrev cJ3_checkIndex_8e157 : ByteArray := prog_16_method_11_code
def yJ3_checkIndex_8e157 : MethodName := ⟨RJ3, "checkIndex", "(IILjava/util/function/BiFunction;)I"⟩
/-! code tables: (pc, instruction, next pc, target or the word's place, an int, a long, class, field) -/
abbrev E8 : Type := Nat × Instr × Nat × Nat × Int32 × Int64 × Nat × Nat
def tX0_init : List E8 := [(0, .aload_n 0, 1, 0, 0, 0, 0, 0), (1, .invokespecial 3, 4, 211, 0, 0, 0, 0), (4, .aload_n 0, 5, 0, 0, 0, 0, 0), (5, .bipush 6, 7, 0, 6, 0, 0, 0), (7, .newarray .int, 9, 0, 0, 0, 0, 0), (9, .putfield 11, 12, 213, 0, 0, 0, 1), (12, .aload_n 0, 13, 0, 0, 0, 0, 0), (13, .bipush 8, 15, 0, 8, 0, 0, 0), (15, .newarray .int, 17, 0, 0, 0, 0, 0), (17, .putfield 17, 20, 223, 0, 0, 0, 6), (20, .aload_n 0, 21, 0, 0, 0, 0, 0), (21, .bipush 8, 23, 0, 8, 0, 0, 0), (23, .newarray .int, 25, 0, 0, 0, 0, 0), (25, .putfield 20, 28, 224, 0, 0, 0, 7), (28, .aload_n 0, 29, 0, 0, 0, 0, 0), (29, .bipush 8, 31, 0, 8, 0, 0, 0), (31, .newarray .int, 33, 0, 0, 0, 0, 0), (33, .putfield 23, 36, 225, 0, 0, 0, 8), (36, .aload_n 0, 37, 0, 0, 0, 0, 0), (37, .bipush 6, 39, 0, 6, 0, 0, 0), (39, .newarray .int, 41, 0, 0, 0, 0, 0), (41, .putfield 26, 44, 228, 0, 0, 0, 10), (44, .aload_n 0, 45, 0, 0, 0, 0, 0), (45, .bipush 6, 47, 0, 6, 0, 0, 0), (47, .newarray .int, 49, 0, 0, 0, 0, 0), (49, .putfield 29, 52, 229, 0, 0, 0, 11), (52, .aload_n 0, 53, 0, 0, 0, 0, 0), (53, .bipush 6, 55, 0, 6, 0, 0, 0), (55, .newarray .int, 57, 0, 0, 0, 0, 0), (57, .putfield 32, 60, 230, 0, 0, 0, 12), (60, .aload_n 0, 61, 0, 0, 0, 0, 0), (61, .aload_n 1, 62, 0, 0, 0, 0, 1), (62, .putfield 35, 65, 212, 0, 0, 0, 0), (65, .aload_n 0, 66, 0, 0, 0, 0, 0), (66, .bipush 60, 68, 0, 60, 0, 0, 0), (68, .putfield 39, 71, 217, 0, 0, 0, 3), (71, .return_, 72, 0, 0, 0, 0, 0)]
def tX0_become : List E8 := [(0, .aload_n 0, 1, 0, 0, 0, 0, 0), (1, .aload_n 1, 2, 0, 0, 0, 0, 1), (2, .getfield 43, 5, 214, 0, 0, 0, 2), (5, .putfield 43, 8, 214, 0, 0, 0, 2), (8, .aload_n 0, 9, 0, 0, 0, 0, 0), (9, .aload_n 1, 10, 0, 0, 0, 0, 1), (10, .getfield 39, 13, 217, 0, 0, 0, 3), (13, .putfield 39, 16, 217, 0, 0, 0, 3), (16, .aload_n 0, 17, 0, 0, 0, 0, 0), (17, .aload_n 1, 18, 0, 0, 0, 0, 1), (18, .getfield 46, 21, 219, 0, 0, 0, 4), (21, .putfield 46, 24, 219, 0, 0, 0, 4), (24, .aload_n 0, 25, 0, 0, 0, 0, 0), (25, .aload_n 1, 26, 0, 0, 0, 0, 1), (26, .getfield 49, 29, 221, 0, 0, 0, 5), (29, .putfield 49, 32, 221, 0, 0, 0, 5), (32, .aload_n 0, 33, 0, 0, 0, 0, 0), (33, .aload_n 1, 34, 0, 0, 0, 0, 1), (34, .getfield 52, 37, 226, 0, 0, 0, 9), (37, .putfield 52, 40, 226, 0, 0, 0, 9), (40, .aload_n 1, 41, 0, 0, 0, 0, 1), (41, .getfield 17, 44, 223, 0, 0, 0, 6), (44, .iconst 0, 45, 0, 0, 0, 0, 0), (45, .aload_n 0, 46, 0, 0, 0, 0, 0), (46, .getfield 17, 49, 223, 0, 0, 0, 6), (49, .iconst 0, 50, 0, 0, 0, 0, 0), (50, .bipush 8, 52, 0, 8, 0, 0, 0), (52, .invokestatic 55, 55, 675, 0, 0, 0, 0), (55, .aload_n 1, 56, 0, 0, 0, 0, 1), (56, .getfield 20, 59, 224, 0, 0, 0, 7), (59, .iconst 0, 60, 0, 0, 0, 0, 0), (60, .aload_n 0, 61, 0, 0, 0, 0, 0), (61, .getfield 20, 64, 224, 0, 0, 0, 7), (64, .iconst 0, 65, 0, 0, 0, 0, 0), (65, .bipush 8, 67, 0, 8, 0, 0, 0), (67, .invokestatic 55, 70, 675, 0, 0, 0, 0), (70, .aload_n 1, 71, 0, 0, 0, 0, 1), (71, .getfield 23, 74, 225, 0, 0, 0, 8), (74, .iconst 0, 75, 0, 0, 0, 0, 0), (75, .aload_n 0, 76, 0, 0, 0, 0, 0), (76, .getfield 23, 79, 225, 0, 0, 0, 8), (79, .iconst 0, 80, 0, 0, 0, 0, 0), (80, .bipush 8, 82, 0, 8, 0, 0, 0), (82, .invokestatic 55, 85, 675, 0, 0, 0, 0), (85, .aload_n 1, 86, 0, 0, 0, 0, 1), (86, .getfield 26, 89, 228, 0, 0, 0, 10), (89, .iconst 0, 90, 0, 0, 0, 0, 0), (90, .aload_n 0, 91, 0, 0, 0, 0, 0), (91, .getfield 26, 94, 228, 0, 0, 0, 10), (94, .iconst 0, 95, 0, 0, 0, 0, 0), (95, .bipush 6, 97, 0, 6, 0, 0, 0), (97, .invokestatic 55, 100, 675, 0, 0, 0, 0), (100, .aload_n 1, 101, 0, 0, 0, 0, 1), (101, .getfield 29, 104, 229, 0, 0, 0, 11), (104, .iconst 0, 105, 0, 0, 0, 0, 0), (105, .aload_n 0, 106, 0, 0, 0, 0, 0), (106, .getfield 29, 109, 229, 0, 0, 0, 11), (109, .iconst 0, 110, 0, 0, 0, 0, 0), (110, .bipush 6, 112, 0, 6, 0, 0, 0), (112, .invokestatic 55, 115, 675, 0, 0, 0, 0), (115, .aload_n 1, 116, 0, 0, 0, 0, 1), (116, .getfield 32, 119, 230, 0, 0, 0, 12), (119, .iconst 0, 120, 0, 0, 0, 0, 0), (120, .aload_n 0, 121, 0, 0, 0, 0, 0), (121, .getfield 32, 124, 230, 0, 0, 0, 12), (124, .iconst 0, 125, 0, 0, 0, 0, 0), (125, .bipush 6, 127, 0, 6, 0, 0, 0), (127, .invokestatic 55, 130, 675, 0, 0, 0, 0), (130, .return_, 131, 0, 0, 0, 0, 0)]
def tX0_hasCitizen : List E8 := [(0, .iload_n 1, 1, 0, 0, 0, 0, 1), (1, .ifCond .lt 21, 4, 22, 0, 0, 0, 0), (4, .iload_n 1, 5, 0, 0, 0, 0, 1), (5, .aload_n 0, 6, 0, 0, 0, 0, 0), (6, .getfield 49, 9, 221, 0, 0, 0, 5), (9, .if_icmp .ge 13, 12, 22, 0, 0, 0, 0), (12, .iload_n 1, 13, 0, 0, 0, 0, 1), (13, .bipush 8, 15, 0, 8, 0, 0, 0), (15, .if_icmp .ge 7, 18, 22, 0, 0, 0, 0), (18, .iconst 1, 19, 0, 1, 0, 0, 0), (19, .goto 4, 22, 23, 0, 0, 0, 0), (22, .iconst 0, 23, 0, 0, 0, 0, 0), (23, .ireturn, 24, 0, 0, 0, 0, 0)]
def tX0_hasItem : List E8 := [(0, .iload_n 1, 1, 0, 0, 0, 0, 1), (1, .ifCond .lt 21, 4, 22, 0, 0, 0, 0), (4, .iload_n 1, 5, 0, 0, 0, 0, 1), (5, .aload_n 0, 6, 0, 0, 0, 0, 0), (6, .getfield 52, 9, 226, 0, 0, 0, 9), (9, .if_icmp .ge 13, 12, 22, 0, 0, 0, 0), (12, .iload_n 1, 13, 0, 0, 0, 0, 1), (13, .bipush 6, 15, 0, 6, 0, 0, 0), (15, .if_icmp .ge 7, 18, 22, 0, 0, 0, 0), (18, .iconst 1, 19, 0, 1, 0, 0, 0), (19, .goto 4, 22, 23, 0, 0, 0, 0), (22, .iconst 0, 23, 0, 0, 0, 0, 0), (23, .ireturn, 24, 0, 0, 0, 0, 0)]
def tX0_everyone : List E8 := [(0, .iconst 1, 1, 0, 1, 0, 0, 0), (1, .aload_n 0, 2, 0, 0, 0, 0, 0), (2, .getfield 49, 5, 221, 0, 0, 0, 5), (5, .ishl, 6, 0, 0, 0, 0, 0), (6, .iconst 1, 7, 0, 1, 0, 0, 0), (7, .isub, 8, 0, 0, 0, 0, 0), (8, .ireturn, 9, 0, 0, 0, 0, 0)]
def tX0_addCitizen : List E8 := [(0, .aload_n 0, 1, 0, 0, 0, 0, 0), (1, .getfield 49, 4, 221, 0, 0, 0, 5), (4, .ifCond .lt 12, 7, 16, 0, 0, 0, 0), (7, .aload_n 0, 8, 0, 0, 0, 0, 0), (8, .getfield 49, 11, 221, 0, 0, 0, 5), (11, .bipush 8, 13, 0, 8, 0, 0, 0), (13, .if_icmp .lt 6, 16, 19, 0, 0, 0, 0), (16, .bipush (-4), 18, 0, (-4), 0, 0, 0), (18, .ireturn, 19, 0, 0, 0, 0, 0), (19, .aload_n 0, 20, 0, 0, 0, 0, 0), (20, .getfield 17, 23, 223, 0, 0, 0, 6), (23, .aload_n 0, 24, 0, 0, 0, 0, 0), (24, .getfield 49, 27, 221, 0, 0, 0, 5), (27, .iload_n 1, 28, 0, 0, 0, 0, 1), (28, .iastore, 29, 0, 0, 0, 0, 0), (29, .aload_n 0, 30, 0, 0, 0, 0, 0), (30, .getfield 20, 33, 224, 0, 0, 0, 7), (33, .aload_n 0, 34, 0, 0, 0, 0, 0), (34, .getfield 49, 37, 221, 0, 0, 0, 5), (37, .iload_n 2, 38, 0, 0, 0, 0, 2), (38, .iastore, 39, 0, 0, 0, 0, 0), (39, .aload_n 0, 40, 0, 0, 0, 0, 0), (40, .getfield 23, 43, 225, 0, 0, 0, 8), (43, .aload_n 0, 44, 0, 0, 0, 0, 0), (44, .getfield 49, 47, 221, 0, 0, 0, 5), (47, .iconst 0, 48, 0, 0, 0, 0, 0), (48, .iastore, 49, 0, 0, 0, 0, 0), (49, .aload_n 0, 50, 0, 0, 0, 0, 0), (50, .dup, 51, 0, 0, 0, 0, 0), (51, .getfield 49, 54, 221, 0, 0, 0, 5), (54, .dup_x1, 55, 0, 0, 0, 0, 0), (55, .iconst 1, 56, 0, 1, 0, 0, 0), (56, .iadd, 57, 0, 0, 0, 0, 0), (57, .putfield 49, 60, 221, 0, 0, 0, 5), (60, .ireturn, 61, 0, 0, 0, 0, 0)]
def tX0_addItem : List E8 := [(0, .aload_n 0, 1, 0, 0, 0, 0, 0), (1, .getfield 52, 4, 226, 0, 0, 0, 9), (4, .ifCond .lt 12, 7, 16, 0, 0, 0, 0), (7, .aload_n 0, 8, 0, 0, 0, 0, 0), (8, .getfield 52, 11, 226, 0, 0, 0, 9), (11, .bipush 6, 13, 0, 6, 0, 0, 0), (13, .if_icmp .lt 6, 16, 19, 0, 0, 0, 0), (16, .bipush (-4), 18, 0, (-4), 0, 0, 0), (18, .ireturn, 19, 0, 0, 0, 0, 0), (19, .aload_n 0, 20, 0, 0, 0, 0, 0), (20, .getfield 26, 23, 228, 0, 0, 0, 10), (23, .aload_n 0, 24, 0, 0, 0, 0, 0), (24, .getfield 52, 27, 226, 0, 0, 0, 9), (27, .iload_n 1, 28, 0, 0, 0, 0, 1), (28, .iastore, 29, 0, 0, 0, 0, 0), (29, .aload_n 0, 30, 0, 0, 0, 0, 0), (30, .getfield 29, 33, 229, 0, 0, 0, 11), (33, .aload_n 0, 34, 0, 0, 0, 0, 0), (34, .getfield 52, 37, 226, 0, 0, 0, 9), (37, .iconst 0, 38, 0, 0, 0, 0, 0), (38, .iastore, 39, 0, 0, 0, 0, 0), (39, .aload_n 0, 40, 0, 0, 0, 0, 0), (40, .getfield 32, 43, 230, 0, 0, 0, 12), (43, .aload_n 0, 44, 0, 0, 0, 0, 0), (44, .getfield 52, 47, 226, 0, 0, 0, 9), (47, .iconst (-1), 48, 0, (-1), 0, 0, 0), (48, .iastore, 49, 0, 0, 0, 0, 0), (49, .aload_n 0, 50, 0, 0, 0, 0, 0), (50, .dup, 51, 0, 0, 0, 0, 0), (51, .getfield 52, 54, 226, 0, 0, 0, 9), (54, .dup_x1, 55, 0, 0, 0, 0, 0), (55, .iconst 1, 56, 0, 1, 0, 0, 0), (56, .iadd, 57, 0, 0, 0, 0, 0), (57, .putfield 52, 60, 226, 0, 0, 0, 9), (60, .ireturn, 61, 0, 0, 0, 0, 0)]
def tX0_kindOf : List E8 := [(0, .aload_n 0, 1, 0, 0, 0, 0, 0), (1, .iload_n 1, 2, 0, 0, 0, 0, 1), (2, .invokevirtual 61, 5, 343, 0, 0, 0, 0), (5, .ifCond .eq 12, 8, 17, 0, 0, 0, 0), (8, .aload_n 0, 9, 0, 0, 0, 0, 0), (9, .getfield 17, 12, 223, 0, 0, 0, 6), (12, .iload_n 1, 13, 0, 0, 0, 0, 1), (13, .iaload, 14, 0, 0, 0, 0, 0), (14, .goto 4, 17, 18, 0, 0, 0, 0), (17, .iconst (-1), 18, 0, (-1), 0, 0, 0), (18, .ireturn, 19, 0, 0, 0, 0, 0)]
def tX0_numberOf : List E8 := [(0, .aload_n 0, 1, 0, 0, 0, 0, 0), (1, .iload_n 1, 2, 0, 0, 0, 0, 1), (2, .invokevirtual 61, 5, 343, 0, 0, 0, 0), (5, .ifCond .eq 12, 8, 17, 0, 0, 0, 0), (8, .aload_n 0, 9, 0, 0, 0, 0, 0), (9, .getfield 20, 12, 224, 0, 0, 0, 7), (12, .iload_n 1, 13, 0, 0, 0, 0, 1), (13, .iaload, 14, 0, 0, 0, 0, 0), (14, .goto 4, 17, 18, 0, 0, 0, 0), (17, .iconst (-1), 18, 0, (-1), 0, 0, 0), (18, .ireturn, 19, 0, 0, 0, 0, 0)]
def tX0_bribeOf : List E8 := [(0, .aload_n 0, 1, 0, 0, 0, 0, 0), (1, .iload_n 1, 2, 0, 0, 0, 0, 1), (2, .invokevirtual 61, 5, 343, 0, 0, 0, 0), (5, .ifCond .eq 12, 8, 17, 0, 0, 0, 0), (8, .aload_n 0, 9, 0, 0, 0, 0, 0), (9, .getfield 23, 12, 225, 0, 0, 0, 8), (12, .iload_n 1, 13, 0, 0, 0, 0, 1), (13, .iaload, 14, 0, 0, 0, 0, 0), (14, .goto 4, 17, 18, 0, 0, 0, 0), (17, .iconst (-1), 18, 0, (-1), 0, 0, 0), (18, .ireturn, 19, 0, 0, 0, 0, 0)]
def tX0_putKind : List E8 := [(0, .aload_n 0, 1, 0, 0, 0, 0, 0), (1, .iload_n 1, 2, 0, 0, 0, 0, 1), (2, .invokevirtual 61, 5, 343, 0, 0, 0, 0), (5, .ifCond .eq 10, 8, 15, 0, 0, 0, 0), (8, .aload_n 0, 9, 0, 0, 0, 0, 0), (9, .getfield 17, 12, 223, 0, 0, 0, 6), (12, .iload_n 1, 13, 0, 0, 0, 0, 1), (13, .iload_n 2, 14, 0, 0, 0, 0, 2), (14, .iastore, 15, 0, 0, 0, 0, 0), (15, .return_, 16, 0, 0, 0, 0, 0)]
def tX0_putNumber : List E8 := [(0, .aload_n 0, 1, 0, 0, 0, 0, 0), (1, .iload_n 1, 2, 0, 0, 0, 0, 1), (2, .invokevirtual 61, 5, 343, 0, 0, 0, 0), (5, .ifCond .eq 10, 8, 15, 0, 0, 0, 0), (8, .aload_n 0, 9, 0, 0, 0, 0, 0), (9, .getfield 20, 12, 224, 0, 0, 0, 7), (12, .iload_n 1, 13, 0, 0, 0, 0, 1), (13, .iload_n 2, 14, 0, 0, 0, 0, 2), (14, .iastore, 15, 0, 0, 0, 0, 0), (15, .return_, 16, 0, 0, 0, 0, 0)]
def tX0_putBribe : List E8 := [(0, .aload_n 0, 1, 0, 0, 0, 0, 0), (1, .iload_n 1, 2, 0, 0, 0, 0, 1), (2, .invokevirtual 61, 5, 343, 0, 0, 0, 0), (5, .ifCond .eq 10, 8, 15, 0, 0, 0, 0), (8, .aload_n 0, 9, 0, 0, 0, 0, 0), (9, .getfield 23, 12, 225, 0, 0, 0, 8), (12, .iload_n 1, 13, 0, 0, 0, 0, 1), (13, .iload_n 2, 14, 0, 0, 0, 0, 2), (14, .iastore, 15, 0, 0, 0, 0, 0), (15, .return_, 16, 0, 0, 0, 0, 0)]
def tX0_takesOf : List E8 := [(0, .aload_n 0, 1, 0, 0, 0, 0, 0), (1, .iload_n 1, 2, 0, 0, 0, 0, 1), (2, .invokevirtual 65, 5, 423, 0, 0, 0, 0), (5, .ifCond .eq 12, 8, 17, 0, 0, 0, 0), (8, .aload_n 0, 9, 0, 0, 0, 0, 0), (9, .getfield 26, 12, 228, 0, 0, 0, 10), (12, .iload_n 1, 13, 0, 0, 0, 0, 1), (13, .iaload, 14, 0, 0, 0, 0, 0), (14, .goto 4, 17, 18, 0, 0, 0, 0), (17, .iconst (-1), 18, 0, (-1), 0, 0, 0), (18, .ireturn, 19, 0, 0, 0, 0, 0)]
def tX0_soFarOf : List E8 := [(0, .aload_n 0, 1, 0, 0, 0, 0, 0), (1, .iload_n 1, 2, 0, 0, 0, 0, 1), (2, .invokevirtual 65, 5, 423, 0, 0, 0, 0), (5, .ifCond .eq 12, 8, 17, 0, 0, 0, 0), (8, .aload_n 0, 9, 0, 0, 0, 0, 0), (9, .getfield 29, 12, 229, 0, 0, 0, 11), (12, .iload_n 1, 13, 0, 0, 0, 0, 1), (13, .iaload, 14, 0, 0, 0, 0, 0), (14, .goto 4, 17, 18, 0, 0, 0, 0), (17, .iconst (-1), 18, 0, (-1), 0, 0, 0), (18, .ireturn, 19, 0, 0, 0, 0, 0)]
def tX0_doneAt : List E8 := [(0, .aload_n 0, 1, 0, 0, 0, 0, 0), (1, .iload_n 1, 2, 0, 0, 0, 0, 1), (2, .invokevirtual 65, 5, 423, 0, 0, 0, 0), (5, .ifCond .eq 12, 8, 17, 0, 0, 0, 0), (8, .aload_n 0, 9, 0, 0, 0, 0, 0), (9, .getfield 32, 12, 230, 0, 0, 0, 12), (12, .iload_n 1, 13, 0, 0, 0, 0, 1), (13, .iaload, 14, 0, 0, 0, 0, 0), (14, .goto 4, 17, 18, 0, 0, 0, 0), (17, .iconst (-1), 18, 0, (-1), 0, 0, 0), (18, .ireturn, 19, 0, 0, 0, 0, 0)]
def tX0_itemsDone : List E8 := [(0, .iconst 0, 1, 0, 0, 0, 0, 0), (1, .istore_n 1, 2, 0, 0, 0, 0, 1), (2, .iconst 0, 3, 0, 0, 0, 0, 0), (3, .istore_n 2, 4, 0, 0, 0, 0, 2), (4, .iload_n 2, 5, 0, 0, 0, 0, 2), (5, .aload_n 0, 6, 0, 0, 0, 0, 0), (6, .getfield 52, 9, 226, 0, 0, 0, 9), (9, .if_icmp .ge 26, 12, 35, 0, 0, 0, 0), (12, .iload_n 1, 13, 0, 0, 0, 0, 1), (13, .aload_n 0, 14, 0, 0, 0, 0, 0), (14, .iload_n 2, 15, 0, 0, 0, 0, 2), (15, .invokevirtual 68, 18, 656, 0, 0, 0, 0), (18, .iconst (-1), 19, 0, (-1), 0, 0, 0), (19, .if_icmp .ne 7, 22, 26, 0, 0, 0, 0), (22, .iconst 0, 23, 0, 0, 0, 0, 0), (23, .goto 4, 26, 27, 0, 0, 0, 0), (26, .iconst 1, 27, 0, 1, 0, 0, 0), (27, .iadd, 28, 0, 0, 0, 0, 0), (28, .istore_n 1, 29, 0, 0, 0, 0, 1), (29, .iinc 2 1, 32, 0, 1, 0, 0, 0), (32, .goto (-28), 35, 4, 0, 0, 0, 0), (35, .iload_n 1, 36, 0, 0, 0, 0, 1), (36, .ireturn, 37, 0, 0, 0, 0, 0)]
def tX0_drawBribes : List E8 := [(0, .iload_n 1, 1, 0, 0, 0, 0, 1), (1, .istore_n 2, 2, 0, 0, 0, 0, 2), (2, .iconst 0, 3, 0, 0, 0, 0, 0), (3, .istore_n 3, 4, 0, 0, 0, 0, 3), (4, .iload_n 3, 5, 0, 0, 0, 0, 3), (5, .aload_n 0, 6, 0, 0, 0, 0, 0), (6, .getfield 49, 9, 221, 0, 0, 0, 5), (9, .if_icmp .ge 30, 12, 39, 0, 0, 0, 0), (12, .iload_n 2, 13, 0, 0, 0, 0, 2), (13, .ldc 71, 15, 809, 1103515245, 0, 0, 0), (15, .imul, 16, 0, 0, 0, 0, 0), (16, .sipush 12345, 19, 0, 12345, 0, 0, 0), (19, .iadd, 20, 0, 0, 0, 0, 0), (20, .istore_n 2, 21, 0, 0, 0, 0, 2), (21, .aload_n 0, 22, 0, 0, 0, 0, 0), (22, .iload_n 3, 23, 0, 0, 0, 0, 3), (23, .iload_n 2, 24, 0, 0, 0, 0, 2), (24, .bipush 9, 26, 0, 9, 0, 0, 0), (26, .iushr, 27, 0, 0, 0, 0, 0), (27, .bipush 100, 29, 0, 100, 0, 0, 0), (29, .irem, 30, 0, 0, 0, 0, 0), (30, .invokevirtual 72, 33, 810, 0, 0, 0, 0), (33, .iinc 3 1, 36, 0, 1, 0, 0, 0), (36, .goto (-32), 39, 4, 0, 0, 0, 0), (39, .return_, 40, 0, 0, 0, 0, 0)]
def tX0_lookAt : List E8 := [(0, .aload_n 0, 1, 0, 0, 0, 0, 0), (1, .iload_n 1, 2, 0, 0, 0, 0, 1), (2, .invokevirtual 61, 5, 343, 0, 0, 0, 0), (5, .ifCond .eq 70, 8, 75, 0, 0, 0, 0), (8, .aload_n 0, 9, 0, 0, 0, 0, 0), (9, .getfield 11, 12, 213, 0, 0, 0, 1), (12, .iconst 0, 13, 0, 0, 0, 0, 0), (13, .aload_n 0, 14, 0, 0, 0, 0, 0), (14, .getfield 20, 17, 224, 0, 0, 0, 7), (17, .iload_n 1, 18, 0, 0, 0, 0, 1), (18, .iaload, 19, 0, 0, 0, 0, 0), (19, .iastore, 20, 0, 0, 0, 0, 0), (20, .aload_n 0, 21, 0, 0, 0, 0, 0), (21, .getfield 11, 24, 213, 0, 0, 0, 1), (24, .iconst 1, 25, 0, 1, 0, 0, 0), (25, .aload_n 0, 26, 0, 0, 0, 0, 0), (26, .getfield 23, 29, 225, 0, 0, 0, 8), (29, .iload_n 1, 30, 0, 0, 0, 0, 1), (30, .iaload, 31, 0, 0, 0, 0, 0), (31, .iastore, 32, 0, 0, 0, 0, 0), (32, .aload_n 0, 33, 0, 0, 0, 0, 0), (33, .getfield 11, 36, 213, 0, 0, 0, 1), (36, .iconst 2, 37, 0, 2, 0, 0, 0), (37, .aload_n 0, 38, 0, 0, 0, 0, 0), (38, .getfield 43, 41, 214, 0, 0, 0, 2), (41, .iastore, 42, 0, 0, 0, 0, 0), (42, .aload_n 0, 43, 0, 0, 0, 0, 0), (43, .getfield 11, 46, 213, 0, 0, 0, 1), (46, .iconst 3, 47, 0, 3, 0, 0, 0), (47, .iload_n 2, 48, 0, 0, 0, 0, 2), (48, .iconst 1, 49, 0, 1, 0, 0, 0), (49, .iload_n 1, 50, 0, 0, 0, 0, 1), (50, .ishl, 51, 0, 0, 0, 0, 0), (51, .iconst 1, 52, 0, 1, 0, 0, 0), (52, .isub, 53, 0, 0, 0, 0, 0), (53, .iand, 54, 0, 0, 0, 0, 0), (54, .invokestatic 76, 57, 364, 0, 0, 0, 0), (57, .iastore, 58, 0, 0, 0, 0, 0), (58, .aload_n 0, 59, 0, 0, 0, 0, 0), (59, .getfield 11, 62, 213, 0, 0, 0, 1), (62, .iconst 4, 63, 0, 4, 0, 0, 0), (63, .iload_n 1, 64, 0, 0, 0, 0, 1), (64, .iastore, 65, 0, 0, 0, 0, 0), (65, .aload_n 0, 66, 0, 0, 0, 0, 0), (66, .getfield 11, 69, 213, 0, 0, 0, 1), (69, .iconst 5, 70, 0, 5, 0, 0, 0), (70, .aload_n 0, 71, 0, 0, 0, 0, 0), (71, .getfield 49, 74, 221, 0, 0, 0, 5), (74, .iastore, 75, 0, 0, 0, 0, 0), (75, .return_, 76, 0, 0, 0, 0, 0)]
def tX0_isRead : List E8 := [(0, .aload_n 0, 1, 0, 0, 0, 0, 0), (1, .iload_n 1, 2, 0, 0, 0, 0, 1), (2, .iload_n 2, 3, 0, 0, 0, 0, 2), (3, .invokevirtual 81, 6, 360, 0, 0, 0, 0), (6, .aload_n 0, 7, 0, 0, 0, 0, 0), (7, .getfield 35, 10, 212, 0, 0, 0, 0), (10, .aload_n 0, 11, 0, 0, 0, 0, 0), (11, .getfield 46, 14, 219, 0, 0, 0, 4), (14, .iconst 0, 15, 0, 0, 0, 0, 0), (15, .aload_n 0, 16, 0, 0, 0, 0, 0), (16, .getfield 11, 19, 213, 0, 0, 0, 1), (19, .invokevirtual 84, 22, 370, 0, 0, 0, 1), (22, .ifCond .eq 7, 25, 29, 0, 0, 0, 0), (25, .iconst 1, 26, 0, 1, 0, 0, 0), (26, .goto 4, 29, 30, 0, 0, 0, 0), (29, .iconst 0, 30, 0, 0, 0, 0, 0), (30, .istore_n 3, 31, 0, 0, 0, 0, 3), (31, .aload_n 0, 32, 0, 0, 0, 0, 0), (32, .iload_n 1, 33, 0, 0, 0, 0, 1), (33, .invokevirtual 88, 36, 390, 0, 0, 0, 0), (36, .iload_n 3, 37, 0, 0, 0, 0, 3), (37, .aload_n 0, 38, 0, 0, 0, 0, 0), (38, .iload_n 1, 39, 0, 0, 0, 0, 1), (39, .invokevirtual 91, 42, 391, 0, 0, 0, 0), (42, .aload_n 0, 43, 0, 0, 0, 0, 0), (43, .iload_n 1, 44, 0, 0, 0, 0, 1), (44, .invokevirtual 94, 47, 392, 0, 0, 0, 0), (47, .aload_n 0, 48, 0, 0, 0, 0, 0), (48, .getfield 43, 51, 214, 0, 0, 0, 2), (51, .invokestatic 97, 54, 393, 0, 0, 0, 1), (54, .ireturn, 55, 0, 0, 0, 0, 0)]
def tX0_silenceOf : List E8 := [(0, .aload_n 0, 1, 0, 0, 0, 0, 0), (1, .iload_n 1, 2, 0, 0, 0, 0, 1), (2, .iload_n 2, 3, 0, 0, 0, 0, 2), (3, .invokevirtual 81, 6, 360, 0, 0, 0, 0), (6, .aload_n 0, 7, 0, 0, 0, 0, 0), (7, .iload_n 1, 8, 0, 0, 0, 0, 1), (8, .invokevirtual 88, 11, 390, 0, 0, 0, 0), (11, .aload_n 0, 12, 0, 0, 0, 0, 0), (12, .getfield 35, 15, 212, 0, 0, 0, 0), (15, .aload_n 0, 16, 0, 0, 0, 0, 0), (16, .getfield 46, 19, 219, 0, 0, 0, 4), (19, .iconst 1, 20, 0, 1, 0, 0, 0), (20, .aload_n 0, 21, 0, 0, 0, 0, 0), (21, .getfield 11, 24, 213, 0, 0, 0, 1), (24, .invokevirtual 84, 27, 370, 0, 0, 0, 1), (27, .aload_n 0, 28, 0, 0, 0, 0, 0), (28, .iload_n 1, 29, 0, 0, 0, 0, 1), (29, .invokevirtual 91, 32, 391, 0, 0, 0, 0), (32, .invokestatic 103, 35, 401, 0, 0, 0, 1), (35, .ireturn, 36, 0, 0, 0, 0, 0)]
def tX0_timeOf : List E8 := [(0, .aload_n 0, 1, 0, 0, 0, 0, 0), (1, .iload_n 1, 2, 0, 0, 0, 0, 1), (2, .iload_n 2, 3, 0, 0, 0, 0, 2), (3, .invokevirtual 81, 6, 360, 0, 0, 0, 0), (6, .aload_n 0, 7, 0, 0, 0, 0, 0), (7, .iload_n 1, 8, 0, 0, 0, 0, 1), (8, .invokevirtual 88, 11, 390, 0, 0, 0, 0), (11, .aload_n 0, 12, 0, 0, 0, 0, 0), (12, .getfield 35, 15, 212, 0, 0, 0, 0), (15, .aload_n 0, 16, 0, 0, 0, 0, 0), (16, .getfield 46, 19, 219, 0, 0, 0, 4), (19, .iconst 2, 20, 0, 2, 0, 0, 0), (20, .aload_n 0, 21, 0, 0, 0, 0, 0), (21, .getfield 11, 24, 213, 0, 0, 0, 1), (24, .invokevirtual 84, 27, 370, 0, 0, 0, 1), (27, .aload_n 0, 28, 0, 0, 0, 0, 0), (28, .iload_n 1, 29, 0, 0, 0, 0, 1), (29, .invokevirtual 91, 32, 391, 0, 0, 0, 0), (32, .aload_n 0, 33, 0, 0, 0, 0, 0), (33, .getfield 43, 36, 214, 0, 0, 0, 2), (36, .invokestatic 107, 39, 408, 0, 0, 0, 1), (39, .ireturn, 40, 0, 0, 0, 0, 0)]
def tX0_listed : List E8 := [(0, .iconst 0, 1, 0, 0, 0, 0, 0), (1, .istore_n 1, 2, 0, 0, 0, 0, 1), (2, .iconst 0, 3, 0, 0, 0, 0, 0), (3, .istore_n 2, 4, 0, 0, 0, 0, 2), (4, .iload_n 2, 5, 0, 0, 0, 0, 2), (5, .aload_n 0, 6, 0, 0, 0, 0, 0), (6, .getfield 49, 9, 221, 0, 0, 0, 5), (9, .if_icmp .ge 24, 12, 33, 0, 0, 0, 0), (12, .aload_n 0, 13, 0, 0, 0, 0, 0), (13, .iload_n 2, 14, 0, 0, 0, 0, 2), (14, .iload_n 1, 15, 0, 0, 0, 0, 1), (15, .invokevirtual 111, 18, 356, 0, 0, 0, 0), (18, .ifCond .eq 9, 21, 27, 0, 0, 0, 0), (21, .iload_n 1, 22, 0, 0, 0, 0, 1), (22, .iconst 1, 23, 0, 1, 0, 0, 0), (23, .iload_n 2, 24, 0, 0, 0, 0, 2), (24, .ishl, 25, 0, 0, 0, 0, 0), (25, .ior, 26, 0, 0, 0, 0, 0), (26, .istore_n 1, 27, 0, 0, 0, 0, 1), (27, .iinc 2 1, 30, 0, 1, 0, 0, 0), (30, .goto (-26), 33, 4, 0, 0, 0, 0), (33, .iload_n 1, 34, 0, 0, 0, 0, 1), (34, .ireturn, 35, 0, 0, 0, 0, 0)]
def tX0_spentOn : List E8 := [(0, .iconst 0, 1, 0, 0, 0, 0, 0), (1, .istore_n 3, 2, 0, 0, 0, 0, 3), (2, .iconst 0, 3, 0, 0, 0, 0, 0), (3, .istore 4, 5, 0, 0, 0, 0, 4), (5, .iload 4, 7, 0, 0, 0, 0, 4), (7, .aload_n 0, 8, 0, 0, 0, 0, 0), (8, .getfield 49, 11, 221, 0, 0, 0, 5), (11, .if_icmp .ge 49, 14, 60, 0, 0, 0, 0), (14, .iload_n 1, 15, 0, 0, 0, 0, 1), (15, .iload 4, 17, 0, 0, 0, 0, 4), (17, .ishr, 18, 0, 0, 0, 0, 0), (18, .iconst 1, 19, 0, 1, 0, 0, 0), (19, .iand, 20, 0, 0, 0, 0, 0), (20, .iconst 1, 21, 0, 1, 0, 0, 0), (21, .if_icmp .ne 33, 24, 54, 0, 0, 0, 0), (24, .iload_n 3, 25, 0, 0, 0, 0, 3), (25, .iload_n 2, 26, 0, 0, 0, 0, 2), (26, .iload 4, 28, 0, 0, 0, 0, 4), (28, .ishr, 29, 0, 0, 0, 0, 0), (29, .iconst 1, 30, 0, 1, 0, 0, 0), (30, .iand, 31, 0, 0, 0, 0, 0), (31, .iconst 1, 32, 0, 1, 0, 0, 0), (32, .if_icmp .ne 13, 35, 45, 0, 0, 0, 0), (35, .aload_n 0, 36, 0, 0, 0, 0, 0), (36, .iload 4, 38, 0, 0, 0, 0, 4), (38, .iload_n 2, 39, 0, 0, 0, 0, 2), (39, .invokevirtual 114, 42, 626, 0, 0, 0, 0), (42, .goto 10, 45, 52, 0, 0, 0, 0), (45, .aload_n 0, 46, 0, 0, 0, 0, 0), (46, .iload 4, 48, 0, 0, 0, 0, 4), (48, .iload_n 2, 49, 0, 0, 0, 0, 2), (49, .invokevirtual 118, 52, 627, 0, 0, 0, 0), (52, .iadd, 53, 0, 0, 0, 0, 0), (53, .istore_n 3, 54, 0, 0, 0, 0, 3), (54, .iinc 4 1, 57, 0, 1, 0, 0, 0), (57, .goto (-52), 60, 5, 0, 0, 0, 0), (60, .iload_n 3, 61, 0, 0, 0, 0, 3), (61, .ireturn, 62, 0, 0, 0, 0, 0)]
def tX0_spentBy : List E8 := [(0, .aload_n 0, 1, 0, 0, 0, 0, 0), (1, .aload_n 0, 2, 0, 0, 0, 0, 0), (2, .invokevirtual 121, 5, 632, 0, 0, 0, 0), (5, .iload_n 1, 6, 0, 0, 0, 0, 1), (6, .invokevirtual 125, 9, 637, 0, 0, 0, 0), (9, .ireturn, 10, 0, 0, 0, 0, 0)]
def tX0_spentByList : List E8 := [(0, .aload_n 0, 1, 0, 0, 0, 0, 0), (1, .aload_n 0, 2, 0, 0, 0, 0, 0), (2, .invokevirtual 121, 5, 632, 0, 0, 0, 0), (5, .aload_n 0, 6, 0, 0, 0, 0, 0), (6, .invokevirtual 128, 9, 636, 0, 0, 0, 0), (9, .invokevirtual 125, 12, 637, 0, 0, 0, 0), (12, .ireturn, 13, 0, 0, 0, 0, 0)]
def tX0_minutesLeft : List E8 := [(0, .iconst 0, 1, 0, 0, 0, 0, 0), (1, .aload_n 0, 2, 0, 0, 0, 0, 0), (2, .getfield 39, 5, 217, 0, 0, 0, 3), (5, .aload_n 0, 6, 0, 0, 0, 0, 0), (6, .aload_n 0, 7, 0, 0, 0, 0, 0), (7, .invokevirtual 121, 10, 632, 0, 0, 0, 0), (10, .aload_n 0, 11, 0, 0, 0, 0, 0), (11, .invokevirtual 128, 14, 636, 0, 0, 0, 0), (14, .invokevirtual 125, 17, 637, 0, 0, 0, 0), (17, .isub, 18, 0, 0, 0, 0, 0), (18, .invokestatic 131, 21, 638, 0, 0, 0, 0), (21, .ireturn, 22, 0, 0, 0, 0, 0)]
def tX0_hold : List E8 := [(0, .aload_n 0, 1, 0, 0, 0, 0, 0), (1, .invokevirtual 136, 4, 661, 0, 0, 0, 0), (4, .istore_n 1, 5, 0, 0, 0, 0, 1), (5, .iconst 0, 6, 0, 0, 0, 0, 0), (6, .istore_n 2, 7, 0, 0, 0, 0, 2), (7, .iload_n 2, 8, 0, 0, 0, 0, 2), (8, .aload_n 0, 9, 0, 0, 0, 0, 0), (9, .getfield 52, 12, 226, 0, 0, 0, 9), (12, .if_icmp .ge 18, 15, 30, 0, 0, 0, 0), (15, .iload_n 1, 16, 0, 0, 0, 0, 1), (16, .aload_n 0, 17, 0, 0, 0, 0, 0), (17, .iload_n 2, 18, 0, 0, 0, 0, 2), (18, .iload_n 1, 19, 0, 0, 0, 0, 1), (19, .invokevirtual 139, 22, 662, 0, 0, 0, 0), (22, .isub, 23, 0, 0, 0, 0, 0), (23, .istore_n 1, 24, 0, 0, 0, 0, 1), (24, .iinc 2 1, 27, 0, 1, 0, 0, 0), (27, .goto (-20), 30, 7, 0, 0, 0, 0), (30, .aload_n 0, 31, 0, 0, 0, 0, 0), (31, .dup, 32, 0, 0, 0, 0, 0), (32, .getfield 43, 35, 214, 0, 0, 0, 2), (35, .iconst 1, 36, 0, 1, 0, 0, 0), (36, .iadd, 37, 0, 0, 0, 0, 0), (37, .putfield 43, 40, 214, 0, 0, 0, 2), (40, .iload_n 1, 41, 0, 0, 0, 0, 1), (41, .ireturn, 42, 0, 0, 0, 0, 0)]
def tX0_goOnWith : List E8 := [(0, .aload_n 0, 1, 0, 0, 0, 0, 0), (1, .iload_n 1, 2, 0, 0, 0, 0, 1), (2, .invokevirtual 65, 5, 423, 0, 0, 0, 0), (5, .ifCond .eq 13, 8, 18, 0, 0, 0, 0), (8, .aload_n 0, 9, 0, 0, 0, 0, 0), (9, .getfield 32, 12, 230, 0, 0, 0, 12), (12, .iload_n 1, 13, 0, 0, 0, 0, 1), (13, .iaload, 14, 0, 0, 0, 0, 0), (14, .iconst (-1), 15, 0, (-1), 0, 0, 0), (15, .if_icmp .eq 5, 18, 20, 0, 0, 0, 0), (18, .iconst 0, 19, 0, 0, 0, 0, 0), (19, .ireturn, 20, 0, 0, 0, 0, 0), (20, .iload_n 2, 21, 0, 0, 0, 0, 2), (21, .aload_n 0, 22, 0, 0, 0, 0, 0), (22, .getfield 26, 25, 228, 0, 0, 0, 10), (25, .iload_n 1, 26, 0, 0, 0, 0, 1), (26, .iaload, 27, 0, 0, 0, 0, 0), (27, .aload_n 0, 28, 0, 0, 0, 0, 0), (28, .getfield 29, 31, 229, 0, 0, 0, 11), (31, .iload_n 1, 32, 0, 0, 0, 0, 1), (32, .iaload, 33, 0, 0, 0, 0, 0), (33, .isub, 34, 0, 0, 0, 0, 0), (34, .invokestatic 142, 37, 666, 0, 0, 0, 0), (37, .istore_n 3, 38, 0, 0, 0, 0, 3), (38, .aload_n 0, 39, 0, 0, 0, 0, 0), (39, .getfield 29, 42, 229, 0, 0, 0, 11), (42, .iload_n 1, 43, 0, 0, 0, 0, 1), (43, .dup2, 44, 0, 0, 0, 0, 0), (44, .iaload, 45, 0, 0, 0, 0, 0), (45, .iload_n 3, 46, 0, 0, 0, 0, 3), (46, .iadd, 47, 0, 0, 0, 0, 0), (47, .iastore, 48, 0, 0, 0, 0, 0), (48, .aload_n 0, 49, 0, 0, 0, 0, 0), (49, .getfield 29, 52, 229, 0, 0, 0, 11), (52, .iload_n 1, 53, 0, 0, 0, 0, 1), (53, .iaload, 54, 0, 0, 0, 0, 0), (54, .aload_n 0, 55, 0, 0, 0, 0, 0), (55, .getfield 26, 58, 228, 0, 0, 0, 10), (58, .iload_n 1, 59, 0, 0, 0, 0, 1), (59, .iaload, 60, 0, 0, 0, 0, 0), (60, .if_icmp .lt 13, 63, 73, 0, 0, 0, 0), (63, .aload_n 0, 64, 0, 0, 0, 0, 0), (64, .getfield 32, 67, 230, 0, 0, 0, 12), (67, .iload_n 1, 68, 0, 0, 0, 0, 1), (68, .aload_n 0, 69, 0, 0, 0, 0, 0), (69, .getfield 43, 72, 214, 0, 0, 0, 2), (72, .iastore, 73, 0, 0, 0, 0, 0), (73, .iload_n 3, 74, 0, 0, 0, 0, 3), (74, .ireturn, 75, 0, 0, 0, 0, 0)]
def tX0_doneWithin : List E8 := [(0, .iconst 0, 1, 0, 0, 0, 0, 0), (1, .istore_n 3, 2, 0, 0, 0, 0, 3), (2, .iload_n 3, 3, 0, 0, 0, 0, 3), (3, .iload_n 1, 4, 0, 0, 0, 0, 1), (4, .if_icmp .ge 23, 7, 27, 0, 0, 0, 0), (7, .aload_n 0, 8, 0, 0, 0, 0, 0), (8, .iload_n 2, 9, 0, 0, 0, 0, 2), (9, .invokevirtual 68, 12, 656, 0, 0, 0, 0), (12, .iconst (-1), 13, 0, (-1), 0, 0, 0), (13, .if_icmp .ne 14, 16, 27, 0, 0, 0, 0), (16, .aload_n 0, 17, 0, 0, 0, 0, 0), (17, .invokevirtual 145, 20, 694, 0, 0, 0, 0), (20, .pop, 21, 0, 0, 0, 0, 0), (21, .iinc 3 1, 24, 0, 1, 0, 0, 0), (24, .goto (-22), 27, 2, 0, 0, 0, 0), (27, .aload_n 0, 28, 0, 0, 0, 0, 0), (28, .iload_n 2, 29, 0, 0, 0, 0, 2), (29, .invokevirtual 68, 32, 656, 0, 0, 0, 0), (32, .ireturn, 33, 0, 0, 0, 0, 0)]
def tX1_isOne : List E8 := [(0, .iload_n 0, 1, 0, 0, 0, 0, 0), (1, .ifCond .lt 12, 4, 13, 0, 0, 0, 0), (4, .iload_n 0, 5, 0, 0, 0, 0, 0), (5, .iconst 5, 6, 0, 5, 0, 0, 0), (6, .if_icmp .gt 7, 9, 13, 0, 0, 0, 0), (9, .iconst 1, 10, 0, 1, 0, 0, 0), (10, .goto 4, 13, 14, 0, 0, 0, 0), (13, .iconst 0, 14, 0, 0, 0, 0, 0), (14, .ireturn, 15, 0, 0, 0, 0, 0)]
def tX1_above : List E8 := [(0, .iload_n 0, 1, 0, 0, 0, 0, 0), (1, .tableswitch 41 1 5 #[35, 35, 37, 39, 35], 36, 0, 0, 0, 0, 0), (36, .iconst 0, 37, 0, 0, 0, 0, 0), (37, .ireturn, 38, 0, 0, 0, 0, 0), (38, .iconst 1, 39, 0, 1, 0, 0, 0), (39, .ireturn, 40, 0, 0, 0, 0, 0), (40, .iconst 2, 41, 0, 2, 0, 0, 0), (41, .ireturn, 42, 0, 0, 0, 0, 0), (42, .iconst (-1), 43, 0, (-1), 0, 0, 0), (43, .ireturn, 44, 0, 0, 0, 0, 0)]
def tX1_isUnder : List E8 := [(0, .iload_n 0, 1, 0, 0, 0, 0, 0), (1, .istore_n 2, 2, 0, 0, 0, 0, 2), (2, .iconst 0, 3, 0, 0, 0, 0, 0), (3, .istore_n 3, 4, 0, 0, 0, 0, 3), (4, .iload_n 3, 5, 0, 0, 0, 0, 3), (5, .iconst 5, 6, 0, 5, 0, 0, 0), (6, .if_icmp .gt 24, 9, 30, 0, 0, 0, 0), (9, .iload_n 2, 10, 0, 0, 0, 0, 2), (10, .iconst (-1), 11, 0, (-1), 0, 0, 0), (11, .if_icmp .eq 19, 14, 30, 0, 0, 0, 0), (14, .iload_n 2, 15, 0, 0, 0, 0, 2), (15, .iload_n 1, 16, 0, 0, 0, 0, 1), (16, .if_icmp .eq 14, 19, 30, 0, 0, 0, 0), (19, .iload_n 2, 20, 0, 0, 0, 0, 2), (20, .invokestatic 11, 23, 870, 0, 0, 0, 0), (23, .istore_n 2, 24, 0, 0, 0, 0, 2), (24, .iinc 3 1, 27, 0, 1, 0, 0, 0), (27, .goto (-23), 30, 4, 0, 0, 0, 0), (30, .iload_n 2, 31, 0, 0, 0, 0, 2), (31, .iload_n 1, 32, 0, 0, 0, 0, 1), (32, .if_icmp .ne 7, 35, 39, 0, 0, 0, 0), (35, .iconst 1, 36, 0, 1, 0, 0, 0), (36, .goto 4, 39, 40, 0, 0, 0, 0), (39, .iconst 0, 40, 0, 0, 0, 0, 0), (40, .ireturn, 41, 0, 0, 0, 0, 0)]
def tX1_isRead : List E8 := [(0, .iload_n 1, 1, 0, 0, 0, 0, 1), (1, .ifCond .eq 11, 4, 12, 0, 0, 0, 0), (4, .iload_n 3, 5, 0, 0, 0, 0, 3), (5, .ifCond .le 7, 8, 12, 0, 0, 0, 0), (8, .iconst 1, 9, 0, 1, 0, 0, 0), (9, .goto 4, 12, 13, 0, 0, 0, 0), (12, .iconst 0, 13, 0, 0, 0, 0, 0), (13, .istore 5, 15, 0, 0, 0, 0, 5), (15, .iload_n 0, 16, 0, 0, 0, 0, 0), (16, .tableswitch 77 0 4 #[36, 38, 40, 43, 58], 52, 0, 0, 0, 0, 0), (52, .iload_n 1, 53, 0, 0, 0, 0, 1), (53, .ireturn, 54, 0, 0, 0, 0, 0), (54, .iconst 1, 55, 0, 1, 0, 0, 0), (55, .ireturn, 56, 0, 0, 0, 0, 0), (56, .iload 5, 58, 0, 0, 0, 0, 5), (58, .ireturn, 59, 0, 0, 0, 0, 0), (59, .iload 4, 61, 0, 0, 0, 0, 4), (61, .bipush 10, 63, 0, 10, 0, 0, 0), (63, .irem, 64, 0, 0, 0, 0, 0), (64, .iload_n 2, 65, 0, 0, 0, 0, 2), (65, .if_icmp .eq 7, 68, 72, 0, 0, 0, 0), (68, .iconst 1, 69, 0, 1, 0, 0, 0), (69, .goto 4, 72, 73, 0, 0, 0, 0), (72, .iconst 0, 73, 0, 0, 0, 0, 0), (73, .ireturn, 74, 0, 0, 0, 0, 0), (74, .iload 5, 76, 0, 0, 0, 0, 5), (76, .ifCond .ne 11, 79, 87, 0, 0, 0, 0), (79, .iload_n 3, 80, 0, 0, 0, 0, 3), (80, .iload_n 2, 81, 0, 0, 0, 0, 2), (81, .bipush 10, 83, 0, 10, 0, 0, 0), (83, .imul, 84, 0, 0, 0, 0, 0), (84, .if_icmp .lt 7, 87, 91, 0, 0, 0, 0), (87, .iconst 1, 88, 0, 1, 0, 0, 0), (88, .goto 4, 91, 92, 0, 0, 0, 0), (91, .iconst 0, 92, 0, 0, 0, 0, 0), (92, .ireturn, 93, 0, 0, 0, 0, 0), (93, .iconst 0, 94, 0, 0, 0, 0, 0), (94, .ireturn, 95, 0, 0, 0, 0, 0)]
def tX1_silence : List E8 := [(0, .iconst 2, 1, 0, 2, 0, 0, 0), (1, .iload_n 1, 2, 0, 0, 0, 0, 1), (2, .imul, 3, 0, 0, 0, 0, 0), (3, .istore_n 3, 4, 0, 0, 0, 0, 3), (4, .iload_n 1, 5, 0, 0, 0, 0, 1), (5, .iconst 2, 6, 0, 2, 0, 0, 0), (6, .idiv, 7, 0, 0, 0, 0, 0), (7, .istore 4, 9, 0, 0, 0, 0, 4), (9, .iload_n 0, 10, 0, 0, 0, 0, 0), (10, .tableswitch 50 0 4 #[34, 36, 38, 41, 45], 44, 0, 0, 0, 0, 0), (44, .iload_n 1, 45, 0, 0, 0, 0, 1), (45, .ireturn, 46, 0, 0, 0, 0, 0), (46, .iload_n 3, 47, 0, 0, 0, 0, 3), (47, .ireturn, 48, 0, 0, 0, 0, 0), (48, .iload 4, 50, 0, 0, 0, 0, 4), (50, .ireturn, 51, 0, 0, 0, 0, 0), (51, .iload_n 3, 52, 0, 0, 0, 0, 3), (52, .iload_n 2, 53, 0, 0, 0, 0, 2), (53, .iadd, 54, 0, 0, 0, 0, 0), (54, .ireturn, 55, 0, 0, 0, 0, 0), (55, .iload 4, 57, 0, 0, 0, 0, 4), (57, .iconst 2, 58, 0, 2, 0, 0, 0), (58, .iadd, 59, 0, 0, 0, 0, 0), (59, .ireturn, 60, 0, 0, 0, 0, 0), (60, .iconst 1, 61, 0, 1, 0, 0, 0), (61, .ireturn, 62, 0, 0, 0, 0, 0)]
def tX1_time : List E8 := [(0, .iload_n 0, 1, 0, 0, 0, 0, 0), (1, .tableswitch 48 1 4 #[31, 48, 31, 35], 32, 0, 0, 0, 0, 0), (32, .iload_n 1, 33, 0, 0, 0, 0, 1), (33, .iload_n 2, 34, 0, 0, 0, 0, 2), (34, .iadd, 35, 0, 0, 0, 0, 0), (35, .ireturn, 36, 0, 0, 0, 0, 0), (36, .iload_n 3, 37, 0, 0, 0, 0, 3), (37, .iconst 2, 38, 0, 2, 0, 0, 0), (38, .irem, 39, 0, 0, 0, 0, 0), (39, .iconst 1, 40, 0, 1, 0, 0, 0), (40, .if_icmp .ne 7, 43, 47, 0, 0, 0, 0), (43, .iconst 0, 44, 0, 0, 0, 0, 0), (44, .goto 4, 47, 48, 0, 0, 0, 0), (47, .iload_n 1, 48, 0, 0, 0, 0, 1), (48, .ireturn, 49, 0, 0, 0, 0, 0), (49, .iload_n 1, 50, 0, 0, 0, 0, 1), (50, .ireturn, 51, 0, 0, 0, 0, 0)]
def tX2_init : List E8 := [(0, .aload_n 0, 1, 0, 0, 0, 0, 0), (1, .invokespecial 3, 4, 263, 0, 0, 0, 0), (4, .aload_n 0, 5, 0, 0, 0, 0, 0), (5, .bipush 6, 7, 0, 6, 0, 0, 0), (7, .newarray .int, 9, 0, 0, 0, 0, 0), (9, .putfield 11, 12, 264, 0, 0, 1, 0), (12, .aload_n 0, 13, 0, 0, 0, 0, 0), (13, .bipush 40, 15, 0, 40, 0, 0, 0), (15, .newarray .int, 17, 0, 0, 0, 0, 0), (17, .putfield 17, 20, 265, 0, 0, 1, 1), (20, .return_, 21, 0, 0, 0, 0, 0)]
def tX2_weigh : List E8 := [(0, .iconst 0, 1, 0, 0, 0, 0, 0), (1, .istore_n 2, 2, 0, 0, 0, 0, 2), (2, .iconst 0, 3, 0, 0, 0, 0, 0), (3, .istore_n 3, 4, 0, 0, 0, 0, 3), (4, .iload_n 3, 5, 0, 0, 0, 0, 3), (5, .aload_n 0, 6, 0, 0, 0, 0, 0), (6, .getfield 11, 9, 264, 0, 0, 1, 0), (9, .arraylength, 10, 0, 0, 0, 0, 0), (10, .if_icmp .ge 41, 13, 51, 0, 0, 0, 0), (13, .aload_n 0, 14, 0, 0, 0, 0, 0), (14, .getfield 11, 17, 264, 0, 0, 1, 0), (17, .iload_n 3, 18, 0, 0, 0, 0, 3), (18, .aload_n 1, 19, 0, 0, 0, 0, 1), (19, .iload_n 3, 20, 0, 0, 0, 0, 3), (20, .invokevirtual 20, 23, 707, 0, 0, 0, 1), (23, .aload_n 1, 24, 0, 0, 0, 0, 1), (24, .iload_n 3, 25, 0, 0, 0, 0, 3), (25, .invokevirtual 24, 28, 708, 0, 0, 0, 1), (28, .isub, 29, 0, 0, 0, 0, 0), (29, .iastore, 30, 0, 0, 0, 0, 0), (30, .aload_n 0, 31, 0, 0, 0, 0, 0), (31, .getfield 11, 34, 264, 0, 0, 1, 0), (34, .iload_n 3, 35, 0, 0, 0, 0, 3), (35, .iaload, 36, 0, 0, 0, 0, 0), (36, .ifCond .le 9, 39, 45, 0, 0, 0, 0), (39, .iload_n 2, 40, 0, 0, 0, 0, 2), (40, .iconst 1, 41, 0, 1, 0, 0, 0), (41, .iload_n 3, 42, 0, 0, 0, 0, 3), (42, .ishl, 43, 0, 0, 0, 0, 0), (43, .ior, 44, 0, 0, 0, 0, 0), (44, .istore_n 2, 45, 0, 0, 0, 0, 2), (45, .iinc 3 1, 48, 0, 1, 0, 0, 0), (48, .goto (-44), 51, 4, 0, 0, 0, 0), (51, .aload_n 0, 52, 0, 0, 0, 0, 0), (52, .aload_n 1, 53, 0, 0, 0, 0, 1), (53, .getfield 27, 56, 215, 0, 0, 0, 2), (56, .putfield 31, 59, 266, 0, 0, 1, 2), (59, .iconst 0, 60, 0, 0, 0, 0, 0), (60, .istore_n 3, 61, 0, 0, 0, 0, 3), (61, .iconst 0, 62, 0, 0, 0, 0, 0), (62, .istore 4, 64, 0, 0, 0, 0, 4), (64, .iload 4, 66, 0, 0, 0, 0, 4), (66, .aload_n 0, 67, 0, 0, 0, 0, 0), (67, .getfield 17, 70, 265, 0, 0, 1, 1), (70, .arraylength, 71, 0, 0, 0, 0, 0), (71, .if_icmp .ge 34, 74, 105, 0, 0, 0, 0), (74, .iload_n 3, 75, 0, 0, 0, 0, 3), (75, .aload_n 1, 76, 0, 0, 0, 0, 1), (76, .invokevirtual 34, 79, 709, 0, 0, 0, 1), (79, .iadd, 80, 0, 0, 0, 0, 0), (80, .istore_n 3, 81, 0, 0, 0, 0, 3), (81, .aload_n 0, 82, 0, 0, 0, 0, 0), (82, .getfield 17, 85, 265, 0, 0, 1, 1), (85, .iload 4, 87, 0, 0, 0, 0, 4), (87, .iload_n 3, 88, 0, 0, 0, 0, 3), (88, .iastore, 89, 0, 0, 0, 0, 0), (89, .aload_n 1, 90, 0, 0, 0, 0, 1), (90, .dup, 91, 0, 0, 0, 0, 0), (91, .getfield 27, 94, 215, 0, 0, 0, 2), (94, .iconst 1, 95, 0, 1, 0, 0, 0), (95, .iadd, 96, 0, 0, 0, 0, 0), (96, .putfield 27, 99, 215, 0, 0, 0, 2), (99, .iinc 4 1, 102, 0, 1, 0, 0, 0), (102, .goto (-38), 105, 64, 0, 0, 0, 0), (105, .aload_n 0, 106, 0, 0, 0, 0, 0), (106, .iconst 0, 107, 0, 0, 0, 0, 0), (107, .putfield 38, 110, 267, 0, 0, 1, 3), (110, .aload_n 0, 111, 0, 0, 0, 0, 0), (111, .ldc 43, 113, 710, 2147483647, 0, 0, 0), (113, .putfield 44, 116, 269, 0, 0, 1, 4), (116, .aload_n 0, 117, 0, 0, 0, 0, 0), (117, .iconst 0, 118, 0, 0, 0, 0, 0), (118, .iload_n 2, 119, 0, 0, 0, 0, 2), (119, .iconst 0, 120, 0, 0, 0, 0, 0), (120, .iconst 0, 121, 0, 0, 0, 0, 0), (121, .iconst 0, 122, 0, 0, 0, 0, 0), (122, .invokevirtual 47, 125, 711, 0, 0, 0, 0), (125, .return_, 126, 0, 0, 0, 0, 0)]
def tX2_tryAll : List E8 := [(0, .iload_n 2, 1, 0, 0, 0, 0, 2), (1, .ifCond .eq 12, 4, 13, 0, 0, 0, 0), (4, .iload_n 1, 5, 0, 0, 0, 0, 1), (5, .aload_n 0, 6, 0, 0, 0, 0, 0), (6, .getfield 11, 9, 264, 0, 0, 1, 0), (9, .arraylength, 10, 0, 0, 0, 0, 0), (10, .if_icmp .lt 25, 13, 35, 0, 0, 0, 0), (13, .iload 4, 15, 0, 0, 0, 0, 4), (15, .aload_n 0, 16, 0, 0, 0, 0, 0), (16, .getfield 44, 19, 269, 0, 0, 1, 4), (19, .if_icmp .ge 15, 22, 34, 0, 0, 0, 0), (22, .aload_n 0, 23, 0, 0, 0, 0, 0), (23, .iload 4, 25, 0, 0, 0, 0, 4), (25, .putfield 44, 28, 269, 0, 0, 1, 4), (28, .aload_n 0, 29, 0, 0, 0, 0, 0), (29, .iload 5, 31, 0, 0, 0, 0, 5), (31, .putfield 38, 34, 267, 0, 0, 1, 3), (34, .return_, 35, 0, 0, 0, 0, 0), (35, .iconst 0, 36, 0, 0, 0, 0, 0), (36, .istore 6, 38, 0, 0, 0, 0, 6), (38, .iload 6, 40, 0, 0, 0, 0, 6), (40, .aload_n 0, 41, 0, 0, 0, 0, 0), (41, .getfield 11, 44, 264, 0, 0, 1, 0), (44, .arraylength, 45, 0, 0, 0, 0, 0), (45, .if_icmp .ge 66, 48, 111, 0, 0, 0, 0), (48, .iload_n 2, 49, 0, 0, 0, 0, 2), (49, .iload 6, 51, 0, 0, 0, 0, 6), (51, .ishr, 52, 0, 0, 0, 0, 0), (52, .iconst 1, 53, 0, 1, 0, 0, 0), (53, .iand, 54, 0, 0, 0, 0, 0), (54, .iconst 1, 55, 0, 1, 0, 0, 0), (55, .if_icmp .ne 50, 58, 105, 0, 0, 0, 0), (58, .iload_n 3, 59, 0, 0, 0, 0, 3), (59, .aload_n 0, 60, 0, 0, 0, 0, 0), (60, .getfield 11, 63, 264, 0, 0, 1, 0), (63, .iload 6, 65, 0, 0, 0, 0, 6), (65, .iaload, 66, 0, 0, 0, 0, 0), (66, .iadd, 67, 0, 0, 0, 0, 0), (67, .istore 7, 69, 0, 0, 0, 0, 7), (69, .aload_n 0, 70, 0, 0, 0, 0, 0), (70, .iload_n 1, 71, 0, 0, 0, 0, 1), (71, .iconst 1, 72, 0, 1, 0, 0, 0), (72, .iadd, 73, 0, 0, 0, 0, 0), (73, .iload_n 2, 74, 0, 0, 0, 0, 2), (74, .iconst 1, 75, 0, 1, 0, 0, 0), (75, .iload 6, 77, 0, 0, 0, 0, 6), (77, .ishl, 78, 0, 0, 0, 0, 0), (78, .iconst (-1), 79, 0, (-1), 0, 0, 0), (79, .ixor, 80, 0, 0, 0, 0, 0), (80, .iand, 81, 0, 0, 0, 0, 0), (81, .iload 7, 83, 0, 0, 0, 0, 7), (83, .iload 4, 85, 0, 0, 0, 0, 4), (85, .aload_n 0, 86, 0, 0, 0, 0, 0), (86, .iload 7, 88, 0, 0, 0, 0, 7), (88, .invokevirtual 51, 91, 715, 0, 0, 0, 0), (91, .iadd, 92, 0, 0, 0, 0, 0), (92, .iload 5, 94, 0, 0, 0, 0, 5), (94, .bipush 10, 96, 0, 10, 0, 0, 0), (96, .imul, 97, 0, 0, 0, 0, 0), (97, .iload 6, 99, 0, 0, 0, 0, 6), (99, .iadd, 100, 0, 0, 0, 0, 0), (100, .iconst 1, 101, 0, 1, 0, 0, 0), (101, .iadd, 102, 0, 0, 0, 0, 0), (102, .invokevirtual 47, 105, 711, 0, 0, 0, 0), (105, .iinc 6 1, 108, 0, 1, 0, 0, 0), (108, .goto (-70), 111, 38, 0, 0, 0, 0), (111, .return_, 112, 0, 0, 0, 0, 0)]
def tX2_sittingAfter : List E8 := [(0, .iconst 0, 1, 0, 0, 0, 0, 0), (1, .istore_n 2, 2, 0, 0, 0, 0, 2), (2, .iload_n 2, 3, 0, 0, 0, 0, 2), (3, .aload_n 0, 4, 0, 0, 0, 0, 0), (4, .getfield 17, 7, 265, 0, 0, 1, 1), (7, .arraylength, 8, 0, 0, 0, 0, 0), (8, .if_icmp .ge 19, 11, 27, 0, 0, 0, 0), (11, .aload_n 0, 12, 0, 0, 0, 0, 0), (12, .getfield 17, 15, 265, 0, 0, 1, 1), (15, .iload_n 2, 16, 0, 0, 0, 0, 2), (16, .iaload, 17, 0, 0, 0, 0, 0), (17, .iload_n 1, 18, 0, 0, 0, 0, 1), (18, .if_icmp .ge 9, 21, 27, 0, 0, 0, 0), (21, .iinc 2 1, 24, 0, 1, 0, 0, 0), (24, .goto (-22), 27, 2, 0, 0, 0, 0), (27, .aload_n 0, 28, 0, 0, 0, 0, 0), (28, .getfield 31, 31, 266, 0, 0, 1, 2), (31, .iload_n 2, 32, 0, 0, 0, 0, 2), (32, .iadd, 33, 0, 0, 0, 0, 0), (33, .ireturn, 34, 0, 0, 0, 0, 0)]
def tX3_init : List E8 := [(0, .aload_n 0, 1, 0, 0, 0, 0, 0), (1, .invokespecial 3, 4, 182, 0, 0, 0, 0), (4, .aload_n 0, 5, 0, 0, 0, 0, 0), (5, .sipush 160, 8, 0, 160, 0, 0, 0), (8, .newarray .int, 10, 0, 0, 0, 0, 0), (10, .putfield 11, 13, 184, 0, 0, 2, 1), (13, .aload_n 0, 14, 0, 0, 0, 0, 0), (14, .aload_n 1, 15, 0, 0, 0, 0, 1), (15, .putfield 17, 18, 183, 0, 0, 2, 0), (18, .return_, 19, 0, 0, 0, 0, 0)]
def tX3_addByte : List E8 := [(0, .aload_n 0, 1, 0, 0, 0, 0, 0), (1, .getfield 21, 4, 185, 0, 0, 2, 2), (4, .ifCond .lt 15, 7, 19, 0, 0, 0, 0), (7, .aload_n 0, 8, 0, 0, 0, 0, 0), (8, .getfield 21, 11, 185, 0, 0, 2, 2), (11, .aload_n 0, 12, 0, 0, 0, 0, 0), (12, .getfield 11, 15, 184, 0, 0, 2, 1), (15, .arraylength, 16, 0, 0, 0, 0, 0), (16, .if_icmp .lt 6, 19, 22, 0, 0, 0, 0), (19, .bipush (-4), 21, 0, (-4), 0, 0, 0), (21, .ireturn, 22, 0, 0, 0, 0, 0), (22, .aload_n 0, 23, 0, 0, 0, 0, 0), (23, .getfield 11, 26, 184, 0, 0, 2, 1), (26, .aload_n 0, 27, 0, 0, 0, 0, 0), (27, .getfield 21, 30, 185, 0, 0, 2, 2), (30, .iload_n 1, 31, 0, 0, 0, 0, 1), (31, .iastore, 32, 0, 0, 0, 0, 0), (32, .aload_n 0, 33, 0, 0, 0, 0, 0), (33, .dup, 34, 0, 0, 0, 0, 0), (34, .getfield 21, 37, 185, 0, 0, 2, 2), (37, .iconst 1, 38, 0, 1, 0, 0, 0), (38, .iadd, 39, 0, 0, 0, 0, 0), (39, .putfield 21, 42, 185, 0, 0, 2, 2), (42, .aload_n 0, 43, 0, 0, 0, 0, 0), (43, .getfield 21, 46, 185, 0, 0, 2, 2), (46, .ireturn, 47, 0, 0, 0, 0, 0)]
def tX3_readTape : List E8 := [(0, .aload_n 0, 1, 0, 0, 0, 0, 0), (1, .getfield 17, 4, 183, 0, 0, 2, 0), (4, .invokevirtual 25, 7, 483, 0, 0, 0, 1), (7, .aload_n 0, 8, 0, 0, 0, 0, 0), (8, .iconst 0, 9, 0, 0, 0, 0, 0), (9, .putfield 28, 12, 187, 0, 0, 2, 3), (12, .aload_n 0, 13, 0, 0, 0, 0, 0), (13, .invokevirtual 31, 16, 484, 0, 0, 0, 0), (16, .iconst 1, 17, 0, 1, 0, 0, 0), (17, .istore_n 1, 18, 0, 0, 0, 0, 1), (18, .iconst 0, 19, 0, 0, 0, 0, 0), (19, .istore_n 2, 20, 0, 0, 0, 0, 2), (20, .iload_n 2, 21, 0, 0, 0, 0, 2), (21, .iconst 3, 22, 0, 3, 0, 0, 0), (22, .if_icmp .ge 56, 25, 78, 0, 0, 0, 0), (25, .iload_n 1, 26, 0, 0, 0, 0, 1), (26, .ifCond .eq 52, 29, 78, 0, 0, 0, 0), (29, .aload_n 0, 30, 0, 0, 0, 0, 0), (30, .sipush 262, 33, 0, 262, 0, 0, 0), (33, .iload_n 2, 34, 0, 0, 0, 0, 2), (34, .iadd, 35, 0, 0, 0, 0, 0), (35, .invokevirtual 34, 38, 575, 0, 0, 0, 0), (38, .ifCond .eq 24, 41, 62, 0, 0, 0, 0), (41, .aload_n 0, 42, 0, 0, 0, 0, 0), (42, .iconst 0, 43, 0, 0, 0, 0, 0), (43, .invokevirtual 38, 46, 579, 0, 0, 0, 0), (46, .ifCond .eq 16, 49, 62, 0, 0, 0, 0), (49, .aload_n 0, 50, 0, 0, 0, 0, 0), (50, .bipush 59, 52, 0, 59, 0, 0, 0), (52, .invokevirtual 34, 55, 575, 0, 0, 0, 0), (55, .ifCond .eq 7, 58, 62, 0, 0, 0, 0), (58, .iconst 1, 59, 0, 1, 0, 0, 0), (59, .goto 4, 62, 63, 0, 0, 0, 0), (62, .iconst 0, 63, 0, 0, 0, 0, 0), (63, .istore_n 1, 64, 0, 0, 0, 0, 1), (64, .aload_n 0, 65, 0, 0, 0, 0, 0), (65, .getfield 17, 68, 183, 0, 0, 2, 0), (68, .iload_n 2, 69, 0, 0, 0, 0, 2), (69, .invokevirtual 41, 72, 609, 0, 0, 0, 1), (72, .iinc 2 1, 75, 0, 1, 0, 0, 0), (75, .goto (-55), 78, 20, 0, 0, 0, 0), (78, .aload_n 0, 79, 0, 0, 0, 0, 0), (79, .iconst 0, 80, 0, 0, 0, 0, 0), (80, .putfield 21, 83, 185, 0, 0, 2, 2), (83, .iload_n 1, 84, 0, 0, 0, 0, 1), (84, .ifCond .eq 20, 87, 104, 0, 0, 0, 0), (87, .aload_n 0, 88, 0, 0, 0, 0, 0), (88, .getfield 45, 91, 189, 0, 0, 2, 5), (91, .ifCond .ne 13, 94, 104, 0, 0, 0, 0), (94, .aload_n 0, 95, 0, 0, 0, 0, 0), (95, .getfield 17, 98, 183, 0, 0, 2, 0), (98, .invokevirtual 48, 101, 610, 0, 0, 0, 1), (101, .goto 10, 104, 111, 0, 0, 0, 0), (104, .bipush (-100), 106, 0, (-100), 0, 0, 0), (106, .aload_n 0, 107, 0, 0, 0, 0, 0), (107, .getfield 52, 110, 188, 0, 0, 2, 4), (110, .isub, 111, 0, 0, 0, 0, 0), (111, .ireturn, 112, 0, 0, 0, 0, 0)]
def tX3_passed : List E8 := [(0, .aload_n 0, 1, 0, 0, 0, 0, 0), (1, .getfield 45, 4, 189, 0, 0, 2, 5), (4, .iload_n 1, 5, 0, 0, 0, 0, 1), (5, .if_icmp .eq 5, 8, 10, 0, 0, 0, 0), (8, .iconst 0, 9, 0, 0, 0, 0, 0), (9, .ireturn, 10, 0, 0, 0, 0, 0), (10, .aload_n 0, 11, 0, 0, 0, 0, 0), (11, .invokevirtual 31, 14, 484, 0, 0, 0, 0), (14, .iconst 1, 15, 0, 1, 0, 0, 0), (15, .ireturn, 16, 0, 0, 0, 0, 0)]
def tX3_readOr : List E8 := [(0, .aload_n 0, 1, 0, 0, 0, 0, 0), (1, .iload_n 1, 2, 0, 0, 0, 0, 1), (2, .invokevirtual 55, 5, 583, 0, 0, 0, 0), (5, .istore_n 2, 6, 0, 0, 0, 0, 2), (6, .iconst 0, 7, 0, 0, 0, 0, 0), (7, .istore_n 3, 8, 0, 0, 0, 0, 3), (8, .iload_n 3, 9, 0, 0, 0, 0, 3), (9, .aload_n 0, 10, 0, 0, 0, 0, 0), (10, .getfield 11, 13, 184, 0, 0, 2, 1), (13, .arraylength, 14, 0, 0, 0, 0, 0), (14, .if_icmp .ge 42, 17, 56, 0, 0, 0, 0), (17, .iload_n 2, 18, 0, 0, 0, 0, 2), (18, .ifCond .eq 38, 21, 56, 0, 0, 0, 0), (21, .aload_n 0, 22, 0, 0, 0, 0, 0), (22, .getfield 45, 25, 189, 0, 0, 2, 5), (25, .sipush 265, 28, 0, 265, 0, 0, 0), (28, .if_icmp .ne 28, 31, 56, 0, 0, 0, 0), (31, .aload_n 0, 32, 0, 0, 0, 0, 0), (32, .invokevirtual 31, 35, 484, 0, 0, 0, 0), (35, .aload_n 0, 36, 0, 0, 0, 0, 0), (36, .iload_n 1, 37, 0, 0, 0, 0, 1), (37, .invokevirtual 55, 40, 583, 0, 0, 0, 0), (40, .istore_n 2, 41, 0, 0, 0, 0, 2), (41, .aload_n 0, 42, 0, 0, 0, 0, 0), (42, .getfield 17, 45, 183, 0, 0, 2, 0), (45, .bipush (-20), 47, 0, (-20), 0, 0, 0), (47, .invokevirtual 58, 50, 607, 0, 0, 0, 1), (50, .iinc 3 1, 53, 0, 1, 0, 0, 0), (53, .goto (-45), 56, 8, 0, 0, 0, 0), (56, .iload_n 2, 57, 0, 0, 0, 0, 2), (57, .ireturn, 58, 0, 0, 0, 0, 0)]
def tX3_readAnd : List E8 := [(0, .aload_n 0, 1, 0, 0, 0, 0, 0), (1, .iload_n 1, 2, 0, 0, 0, 0, 1), (2, .invokevirtual 61, 5, 587, 0, 0, 0, 0), (5, .istore_n 2, 6, 0, 0, 0, 0, 2), (6, .iconst 0, 7, 0, 0, 0, 0, 0), (7, .istore_n 3, 8, 0, 0, 0, 0, 3), (8, .iload_n 3, 9, 0, 0, 0, 0, 3), (9, .aload_n 0, 10, 0, 0, 0, 0, 0), (10, .getfield 11, 13, 184, 0, 0, 2, 1), (13, .arraylength, 14, 0, 0, 0, 0, 0), (14, .if_icmp .ge 42, 17, 56, 0, 0, 0, 0), (17, .iload_n 2, 18, 0, 0, 0, 0, 2), (18, .ifCond .eq 38, 21, 56, 0, 0, 0, 0), (21, .aload_n 0, 22, 0, 0, 0, 0, 0), (22, .getfield 45, 25, 189, 0, 0, 2, 5), (25, .sipush 266, 28, 0, 266, 0, 0, 0), (28, .if_icmp .ne 28, 31, 56, 0, 0, 0, 0), (31, .aload_n 0, 32, 0, 0, 0, 0, 0), (32, .invokevirtual 31, 35, 484, 0, 0, 0, 0), (35, .aload_n 0, 36, 0, 0, 0, 0, 0), (36, .iload_n 1, 37, 0, 0, 0, 0, 1), (37, .invokevirtual 61, 40, 587, 0, 0, 0, 0), (40, .istore_n 2, 41, 0, 0, 0, 0, 2), (41, .aload_n 0, 42, 0, 0, 0, 0, 0), (42, .getfield 17, 45, 183, 0, 0, 2, 0), (45, .bipush (-21), 47, 0, (-21), 0, 0, 0), (47, .invokevirtual 58, 50, 607, 0, 0, 0, 1), (50, .iinc 3 1, 53, 0, 1, 0, 0, 0), (53, .goto (-45), 56, 8, 0, 0, 0, 0), (56, .iload_n 2, 57, 0, 0, 0, 0, 2), (57, .ireturn, 58, 0, 0, 0, 0, 0)]
def tX3_readNot : List E8 := [(0, .aload_n 0, 1, 0, 0, 0, 0, 0), (1, .getfield 45, 4, 189, 0, 0, 2, 5), (4, .sipush 267, 7, 0, 267, 0, 0, 0), (7, .if_icmp .eq 9, 10, 16, 0, 0, 0, 0), (10, .aload_n 0, 11, 0, 0, 0, 0, 0), (11, .iload_n 1, 12, 0, 0, 0, 0, 1), (12, .invokevirtual 64, 15, 591, 0, 0, 0, 0), (15, .ireturn, 16, 0, 0, 0, 0, 0), (16, .iload_n 1, 17, 0, 0, 0, 0, 1), (17, .iconst 5, 18, 0, 5, 0, 0, 0), (18, .if_icmp .lt 5, 21, 23, 0, 0, 0, 0), (21, .iconst 0, 22, 0, 0, 0, 0, 0), (22, .ireturn, 23, 0, 0, 0, 0, 0), (23, .aload_n 0, 24, 0, 0, 0, 0, 0), (24, .invokevirtual 31, 27, 484, 0, 0, 0, 0), (27, .aload_n 0, 28, 0, 0, 0, 0, 0), (28, .iload_n 1, 29, 0, 0, 0, 0, 1), (29, .iconst 1, 30, 0, 1, 0, 0, 0), (30, .iadd, 31, 0, 0, 0, 0, 0), (31, .invokevirtual 61, 34, 587, 0, 0, 0, 0), (34, .istore_n 2, 35, 0, 0, 0, 0, 2), (35, .aload_n 0, 36, 0, 0, 0, 0, 0), (36, .getfield 17, 39, 183, 0, 0, 2, 0), (39, .bipush (-10), 41, 0, (-10), 0, 0, 0), (41, .invokevirtual 58, 44, 607, 0, 0, 0, 1), (44, .iload_n 2, 45, 0, 0, 0, 0, 2), (45, .ireturn, 46, 0, 0, 0, 0, 0)]
def tX3_readComparison : List E8 := [(0, .aload_n 0, 1, 0, 0, 0, 0, 0), (1, .iload_n 1, 2, 0, 0, 0, 0, 1), (2, .invokevirtual 67, 5, 595, 0, 0, 0, 0), (5, .istore_n 2, 6, 0, 0, 0, 0, 2), (6, .iload_n 2, 7, 0, 0, 0, 0, 2), (7, .ifCond .eq 21, 10, 28, 0, 0, 0, 0), (10, .aload_n 0, 11, 0, 0, 0, 0, 0), (11, .getfield 45, 14, 189, 0, 0, 2, 5), (14, .bipush 60, 16, 0, 60, 0, 0, 0), (16, .if_icmp .eq 14, 19, 30, 0, 0, 0, 0), (19, .aload_n 0, 20, 0, 0, 0, 0, 0), (20, .getfield 45, 23, 189, 0, 0, 2, 5), (23, .bipush 61, 25, 0, 61, 0, 0, 0), (25, .if_icmp .eq 5, 28, 30, 0, 0, 0, 0), (28, .iload_n 2, 29, 0, 0, 0, 0, 2), (29, .ireturn, 30, 0, 0, 0, 0, 0), (30, .aload_n 0, 31, 0, 0, 0, 0, 0), (31, .getfield 45, 34, 189, 0, 0, 2, 5), (34, .bipush 60, 36, 0, 60, 0, 0, 0), (36, .if_icmp .ne 8, 39, 44, 0, 0, 0, 0), (39, .bipush (-22), 41, 0, (-22), 0, 0, 0), (41, .goto 5, 44, 46, 0, 0, 0, 0), (44, .bipush (-23), 46, 0, (-23), 0, 0, 0), (46, .istore_n 3, 47, 0, 0, 0, 0, 3), (47, .aload_n 0, 48, 0, 0, 0, 0, 0), (48, .invokevirtual 31, 51, 484, 0, 0, 0, 0), (51, .aload_n 0, 52, 0, 0, 0, 0, 0), (52, .iload_n 1, 53, 0, 0, 0, 0, 1), (53, .invokevirtual 67, 56, 595, 0, 0, 0, 0), (56, .istore_n 2, 57, 0, 0, 0, 0, 2), (57, .aload_n 0, 58, 0, 0, 0, 0, 0), (58, .getfield 17, 61, 183, 0, 0, 2, 0), (61, .iload_n 3, 62, 0, 0, 0, 0, 3), (62, .invokevirtual 58, 65, 607, 0, 0, 0, 1), (65, .iload_n 2, 66, 0, 0, 0, 0, 2), (66, .ireturn, 67, 0, 0, 0, 0, 0)]
def tX3_readSum : List E8 := [(0, .aload_n 0, 1, 0, 0, 0, 0, 0), (1, .iload_n 1, 2, 0, 0, 0, 0, 1), (2, .invokevirtual 70, 5, 599, 0, 0, 0, 0), (5, .istore_n 2, 6, 0, 0, 0, 0, 2), (6, .iconst 0, 7, 0, 0, 0, 0, 0), (7, .istore_n 3, 8, 0, 0, 0, 0, 3), (8, .iload_n 3, 9, 0, 0, 0, 0, 3), (9, .aload_n 0, 10, 0, 0, 0, 0, 0), (10, .getfield 11, 13, 184, 0, 0, 2, 1), (13, .arraylength, 14, 0, 0, 0, 0, 0), (14, .if_icmp .ge 68, 17, 82, 0, 0, 0, 0), (17, .iload_n 2, 18, 0, 0, 0, 0, 2), (18, .ifCond .eq 64, 21, 82, 0, 0, 0, 0), (21, .aload_n 0, 22, 0, 0, 0, 0, 0), (22, .getfield 45, 25, 189, 0, 0, 2, 5), (25, .bipush 43, 27, 0, 43, 0, 0, 0), (27, .if_icmp .eq 12, 30, 39, 0, 0, 0, 0), (30, .aload_n 0, 31, 0, 0, 0, 0, 0), (31, .getfield 45, 34, 189, 0, 0, 2, 5), (34, .bipush 45, 36, 0, 45, 0, 0, 0), (36, .if_icmp .ne 46, 39, 82, 0, 0, 0, 0), (39, .aload_n 0, 40, 0, 0, 0, 0, 0), (40, .getfield 45, 43, 189, 0, 0, 2, 5), (43, .bipush 43, 45, 0, 43, 0, 0, 0), (45, .if_icmp .ne 8, 48, 53, 0, 0, 0, 0), (48, .bipush (-24), 50, 0, (-24), 0, 0, 0), (50, .goto 5, 53, 55, 0, 0, 0, 0), (53, .bipush (-25), 55, 0, (-25), 0, 0, 0), (55, .istore 4, 57, 0, 0, 0, 0, 4), (57, .aload_n 0, 58, 0, 0, 0, 0, 0), (58, .invokevirtual 31, 61, 484, 0, 0, 0, 0), (61, .aload_n 0, 62, 0, 0, 0, 0, 0), (62, .iload_n 1, 63, 0, 0, 0, 0, 1), (63, .invokevirtual 70, 66, 599, 0, 0, 0, 0), (66, .istore_n 2, 67, 0, 0, 0, 0, 2), (67, .aload_n 0, 68, 0, 0, 0, 0, 0), (68, .getfield 17, 71, 183, 0, 0, 2, 0), (71, .iload 4, 73, 0, 0, 0, 0, 4), (73, .invokevirtual 58, 76, 607, 0, 0, 0, 1), (76, .iinc 3 1, 79, 0, 1, 0, 0, 0), (79, .goto (-71), 82, 8, 0, 0, 0, 0), (82, .iload_n 2, 83, 0, 0, 0, 0, 2), (83, .ireturn, 84, 0, 0, 0, 0, 0)]
def tX3_readTerm : List E8 := [(0, .aload_n 0, 1, 0, 0, 0, 0, 0), (1, .iload_n 1, 2, 0, 0, 0, 0, 1), (2, .invokevirtual 73, 5, 603, 0, 0, 0, 0), (5, .istore_n 2, 6, 0, 0, 0, 0, 2), (6, .iconst 0, 7, 0, 0, 0, 0, 0), (7, .istore_n 3, 8, 0, 0, 0, 0, 3), (8, .iload_n 3, 9, 0, 0, 0, 0, 3), (9, .aload_n 0, 10, 0, 0, 0, 0, 0), (10, .getfield 11, 13, 184, 0, 0, 2, 1), (13, .arraylength, 14, 0, 0, 0, 0, 0), (14, .if_icmp .ge 41, 17, 55, 0, 0, 0, 0), (17, .iload_n 2, 18, 0, 0, 0, 0, 2), (18, .ifCond .eq 37, 21, 55, 0, 0, 0, 0), (21, .aload_n 0, 22, 0, 0, 0, 0, 0), (22, .getfield 45, 25, 189, 0, 0, 2, 5), (25, .bipush 42, 27, 0, 42, 0, 0, 0), (27, .if_icmp .ne 28, 30, 55, 0, 0, 0, 0), (30, .aload_n 0, 31, 0, 0, 0, 0, 0), (31, .invokevirtual 31, 34, 484, 0, 0, 0, 0), (34, .aload_n 0, 35, 0, 0, 0, 0, 0), (35, .iload_n 1, 36, 0, 0, 0, 0, 1), (36, .invokevirtual 73, 39, 603, 0, 0, 0, 0), (39, .istore_n 2, 40, 0, 0, 0, 0, 2), (40, .aload_n 0, 41, 0, 0, 0, 0, 0), (41, .getfield 17, 44, 183, 0, 0, 2, 0), (44, .bipush (-26), 46, 0, (-26), 0, 0, 0), (46, .invokevirtual 58, 49, 607, 0, 0, 0, 1), (49, .iinc 3 1, 52, 0, 1, 0, 0, 0), (52, .goto (-44), 55, 8, 0, 0, 0, 0), (55, .iload_n 2, 56, 0, 0, 0, 0, 2), (56, .ireturn, 57, 0, 0, 0, 0, 0)]
def tX3_readOne : List E8 := [(0, .aload_n 0, 1, 0, 0, 0, 0, 0), (1, .getfield 45, 4, 189, 0, 0, 2, 5), (4, .iconst 2, 5, 0, 2, 0, 0, 0), (5, .if_icmp .ne 20, 8, 25, 0, 0, 0, 0), (8, .aload_n 0, 9, 0, 0, 0, 0, 0), (9, .getfield 17, 12, 183, 0, 0, 2, 0), (12, .aload_n 0, 13, 0, 0, 0, 0, 0), (13, .getfield 76, 16, 190, 0, 0, 2, 6), (16, .invokevirtual 58, 19, 607, 0, 0, 0, 1), (19, .aload_n 0, 20, 0, 0, 0, 0, 0), (20, .invokevirtual 31, 23, 484, 0, 0, 0, 0), (23, .iconst 1, 24, 0, 1, 0, 0, 0), (24, .ireturn, 25, 0, 0, 0, 0, 0), (25, .aload_n 0, 26, 0, 0, 0, 0, 0), (26, .getfield 45, 29, 189, 0, 0, 2, 5), (29, .sipush 256, 32, 0, 256, 0, 0, 0), (32, .if_icmp .lt 37, 35, 69, 0, 0, 0, 0), (35, .aload_n 0, 36, 0, 0, 0, 0, 0), (36, .getfield 45, 39, 189, 0, 0, 2, 5), (39, .sipush 262, 42, 0, 262, 0, 0, 0), (42, .if_icmp .ge 27, 45, 69, 0, 0, 0, 0), (45, .aload_n 0, 46, 0, 0, 0, 0, 0), (46, .getfield 17, 49, 183, 0, 0, 2, 0), (49, .aload_n 0, 50, 0, 0, 0, 0, 0), (50, .getfield 45, 53, 189, 0, 0, 2, 5), (53, .sipush 256, 56, 0, 256, 0, 0, 0), (56, .isub, 57, 0, 0, 0, 0, 0), (57, .invokestatic 79, 60, 608, 0, 0, 0, 1), (60, .invokevirtual 58, 63, 607, 0, 0, 0, 1), (63, .aload_n 0, 64, 0, 0, 0, 0, 0), (64, .invokevirtual 31, 67, 484, 0, 0, 0, 0), (67, .iconst 1, 68, 0, 1, 0, 0, 0), (68, .ireturn, 69, 0, 0, 0, 0, 0), (69, .iload_n 1, 70, 0, 0, 0, 0, 1), (70, .iconst 5, 71, 0, 5, 0, 0, 0), (71, .if_icmp .lt 5, 74, 76, 0, 0, 0, 0), (74, .iconst 0, 75, 0, 0, 0, 0, 0), (75, .ireturn, 76, 0, 0, 0, 0, 0), (76, .aload_n 0, 77, 0, 0, 0, 0, 0), (77, .bipush 40, 79, 0, 40, 0, 0, 0), (79, .invokevirtual 34, 82, 575, 0, 0, 0, 0), (82, .ifCond .eq 28, 85, 110, 0, 0, 0, 0), (85, .aload_n 0, 86, 0, 0, 0, 0, 0), (86, .iload_n 1, 87, 0, 0, 0, 0, 1), (87, .iconst 1, 88, 0, 1, 0, 0, 0), (88, .iadd, 89, 0, 0, 0, 0, 0), (89, .invokevirtual 38, 92, 579, 0, 0, 0, 0), (92, .ifCond .eq 16, 95, 108, 0, 0, 0, 0), (95, .aload_n 0, 96, 0, 0, 0, 0, 0), (96, .bipush 41, 98, 0, 41, 0, 0, 0), (98, .invokevirtual 34, 101, 575, 0, 0, 0, 0), (101, .ifCond .eq 7, 104, 108, 0, 0, 0, 0), (104, .iconst 1, 105, 0, 1, 0, 0, 0), (105, .goto 4, 108, 109, 0, 0, 0, 0), (108, .iconst 0, 109, 0, 0, 0, 0, 0), (109, .ireturn, 110, 0, 0, 0, 0, 0), (110, .aload_n 0, 111, 0, 0, 0, 0, 0), (111, .bipush 45, 113, 0, 45, 0, 0, 0), (113, .invokevirtual 34, 116, 575, 0, 0, 0, 0), (116, .ifCond .eq 17, 119, 133, 0, 0, 0, 0), (119, .aload_n 0, 120, 0, 0, 0, 0, 0), (120, .iload_n 1, 121, 0, 0, 0, 0, 1), (121, .iconst 1, 122, 0, 1, 0, 0, 0), (122, .iadd, 123, 0, 0, 0, 0, 0), (123, .invokevirtual 73, 126, 603, 0, 0, 0, 0), (126, .ifCond .eq 7, 129, 133, 0, 0, 0, 0), (129, .iconst 1, 130, 0, 1, 0, 0, 0), (130, .goto 4, 133, 134, 0, 0, 0, 0), (133, .iconst 0, 134, 0, 0, 0, 0, 0), (134, .istore_n 2, 135, 0, 0, 0, 0, 2), (135, .aload_n 0, 136, 0, 0, 0, 0, 0), (136, .getfield 17, 139, 183, 0, 0, 2, 0), (139, .bipush (-11), 141, 0, (-11), 0, 0, 0), (141, .invokevirtual 58, 144, 607, 0, 0, 0, 1), (144, .iload_n 2, 145, 0, 0, 0, 0, 2), (145, .ireturn, 146, 0, 0, 0, 0, 0)]
def tX3_passToken : List E8 := [(0, .aload_n 0, 1, 0, 0, 0, 0, 0), (1, .getfield 28, 4, 187, 0, 0, 2, 3), (4, .aload_n 0, 5, 0, 0, 0, 0, 0), (5, .getfield 21, 8, 185, 0, 0, 2, 2), (8, .if_icmp .ge 31, 11, 39, 0, 0, 0, 0), (11, .aload_n 0, 12, 0, 0, 0, 0, 0), (12, .getfield 11, 15, 184, 0, 0, 2, 1), (15, .aload_n 0, 16, 0, 0, 0, 0, 0), (16, .getfield 28, 19, 187, 0, 0, 2, 3), (19, .iaload, 20, 0, 0, 0, 0, 0), (20, .invokestatic 83, 23, 488, 0, 0, 0, 0), (23, .ifCond .eq 16, 26, 39, 0, 0, 0, 0), (26, .aload_n 0, 27, 0, 0, 0, 0, 0), (27, .dup, 28, 0, 0, 0, 0, 0), (28, .getfield 28, 31, 187, 0, 0, 2, 3), (31, .iconst 1, 32, 0, 1, 0, 0, 0), (32, .iadd, 33, 0, 0, 0, 0, 0), (33, .putfield 28, 36, 187, 0, 0, 2, 3), (36, .goto (-36), 39, 0, 0, 0, 0, 0), (39, .aload_n 0, 40, 0, 0, 0, 0, 0), (40, .aload_n 0, 41, 0, 0, 0, 0, 0), (41, .getfield 28, 44, 187, 0, 0, 2, 3), (44, .putfield 52, 47, 188, 0, 0, 2, 4), (47, .aload_n 0, 48, 0, 0, 0, 0, 0), (48, .getfield 28, 51, 187, 0, 0, 2, 3), (51, .aload_n 0, 52, 0, 0, 0, 0, 0), (52, .getfield 21, 55, 185, 0, 0, 2, 2), (55, .if_icmp .lt 11, 58, 66, 0, 0, 0, 0), (58, .aload_n 0, 59, 0, 0, 0, 0, 0), (59, .iconst 0, 60, 0, 0, 0, 0, 0), (60, .putfield 45, 63, 189, 0, 0, 2, 5), (63, .goto 97, 66, 160, 0, 0, 0, 0), (66, .aload_n 0, 67, 0, 0, 0, 0, 0), (67, .getfield 11, 70, 184, 0, 0, 2, 1), (70, .aload_n 0, 71, 0, 0, 0, 0, 0), (71, .getfield 28, 74, 187, 0, 0, 2, 3), (74, .iaload, 75, 0, 0, 0, 0, 0), (75, .invokestatic 86, 78, 491, 0, 0, 0, 0), (78, .ifCond .eq 14, 81, 92, 0, 0, 0, 0), (81, .aload_n 0, 82, 0, 0, 0, 0, 0), (82, .aload_n 0, 83, 0, 0, 0, 0, 0), (83, .invokevirtual 89, 86, 494, 0, 0, 0, 0), (86, .putfield 45, 89, 189, 0, 0, 2, 5), (89, .goto 71, 92, 160, 0, 0, 0, 0), (92, .aload_n 0, 93, 0, 0, 0, 0, 0), (93, .getfield 11, 96, 184, 0, 0, 2, 1), (96, .aload_n 0, 97, 0, 0, 0, 0, 0), (97, .getfield 28, 100, 187, 0, 0, 2, 3), (100, .iaload, 101, 0, 0, 0, 0, 0), (101, .invokestatic 92, 104, 565, 0, 0, 0, 0), (104, .ifCond .eq 14, 107, 118, 0, 0, 0, 0), (107, .aload_n 0, 108, 0, 0, 0, 0, 0), (108, .aload_n 0, 109, 0, 0, 0, 0, 0), (109, .invokevirtual 95, 112, 568, 0, 0, 0, 0), (112, .putfield 45, 115, 189, 0, 0, 2, 5), (115, .goto 45, 118, 160, 0, 0, 0, 0), (118, .aload_n 0, 119, 0, 0, 0, 0, 0), (119, .aload_n 0, 120, 0, 0, 0, 0, 0), (120, .getfield 11, 123, 184, 0, 0, 2, 1), (123, .aload_n 0, 124, 0, 0, 0, 0, 0), (124, .getfield 28, 127, 187, 0, 0, 2, 3), (127, .iaload, 128, 0, 0, 0, 0, 0), (128, .invokestatic 98, 131, 572, 0, 0, 0, 0), (131, .ifCond .eq 15, 134, 146, 0, 0, 0, 0), (134, .aload_n 0, 135, 0, 0, 0, 0, 0), (135, .getfield 11, 138, 184, 0, 0, 2, 1), (138, .aload_n 0, 139, 0, 0, 0, 0, 0), (139, .getfield 28, 142, 187, 0, 0, 2, 3), (142, .iaload, 143, 0, 0, 0, 0, 0), (143, .goto 4, 146, 147, 0, 0, 0, 0), (146, .iconst 1, 147, 0, 1, 0, 0, 0), (147, .putfield 45, 150, 189, 0, 0, 2, 5), (150, .aload_n 0, 151, 0, 0, 0, 0, 0), (151, .dup, 152, 0, 0, 0, 0, 0), (152, .getfield 28, 155, 187, 0, 0, 2, 3), (155, .iconst 1, 156, 0, 1, 0, 0, 0), (156, .iadd, 157, 0, 0, 0, 0, 0), (157, .putfield 28, 160, 187, 0, 0, 2, 3), (160, .return_, 161, 0, 0, 0, 0, 0)]
def tX3_isBlank : List E8 := [(0, .iload_n 0, 1, 0, 0, 0, 0, 0), (1, .bipush 32, 3, 0, 32, 0, 0, 0), (3, .if_icmp .eq 9, 6, 12, 0, 0, 0, 0), (6, .iload_n 0, 7, 0, 0, 0, 0, 0), (7, .bipush 10, 9, 0, 10, 0, 0, 0), (9, .if_icmp .ne 7, 12, 16, 0, 0, 0, 0), (12, .iconst 1, 13, 0, 1, 0, 0, 0), (13, .goto 4, 16, 17, 0, 0, 0, 0), (16, .iconst 0, 17, 0, 0, 0, 0, 0), (17, .ireturn, 18, 0, 0, 0, 0, 0)]
def tX3_isLetter : List E8 := [(0, .iload_n 0, 1, 0, 0, 0, 0, 0), (1, .bipush 97, 3, 0, 97, 0, 0, 0), (3, .if_icmp .lt 13, 6, 16, 0, 0, 0, 0), (6, .iload_n 0, 7, 0, 0, 0, 0, 0), (7, .bipush 122, 9, 0, 122, 0, 0, 0), (9, .if_icmp .gt 7, 12, 16, 0, 0, 0, 0), (12, .iconst 1, 13, 0, 1, 0, 0, 0), (13, .goto 4, 16, 17, 0, 0, 0, 0), (16, .iconst 0, 17, 0, 0, 0, 0, 0), (17, .ireturn, 18, 0, 0, 0, 0, 0)]
def tX3_isDigit : List E8 := [(0, .iload_n 0, 1, 0, 0, 0, 0, 0), (1, .bipush 48, 3, 0, 48, 0, 0, 0), (3, .if_icmp .lt 13, 6, 16, 0, 0, 0, 0), (6, .iload_n 0, 7, 0, 0, 0, 0, 0), (7, .bipush 57, 9, 0, 57, 0, 0, 0), (9, .if_icmp .gt 7, 12, 16, 0, 0, 0, 0), (12, .iconst 1, 13, 0, 1, 0, 0, 0), (13, .goto 4, 16, 17, 0, 0, 0, 0), (16, .iconst 0, 17, 0, 0, 0, 0, 0), (17, .ireturn, 18, 0, 0, 0, 0, 0)]
def tX3_isSign : List E8 := [(0, .iload_n 0, 1, 0, 0, 0, 0, 0), (1, .tableswitch 105 40 61 #[103, 103, 103, 103, 105, 103, 105, 105, 105, 105, 105, 105, 105, 105, 105, 105, 105, 105, 105, 103, 103, 103], 104, 0, 0, 0, 0, 0), (104, .iconst 1, 105, 0, 1, 0, 0, 0), (105, .ireturn, 106, 0, 0, 0, 0, 0), (106, .iconst 0, 107, 0, 0, 0, 0, 0), (107, .ireturn, 108, 0, 0, 0, 0, 0)]
def tX3_passNumber : List E8 := [(0, .aload_n 0, 1, 0, 0, 0, 0, 0), (1, .iconst 0, 2, 0, 0, 0, 0, 0), (2, .putfield 76, 5, 190, 0, 0, 2, 6), (5, .aload_n 0, 6, 0, 0, 0, 0, 0), (6, .getfield 28, 9, 187, 0, 0, 2, 3), (9, .aload_n 0, 10, 0, 0, 0, 0, 0), (10, .getfield 21, 13, 185, 0, 0, 2, 2), (13, .if_icmp .ge 68, 16, 81, 0, 0, 0, 0), (16, .aload_n 0, 17, 0, 0, 0, 0, 0), (17, .getfield 11, 20, 184, 0, 0, 2, 1), (20, .aload_n 0, 21, 0, 0, 0, 0, 0), (21, .getfield 28, 24, 187, 0, 0, 2, 3), (24, .iaload, 25, 0, 0, 0, 0, 0), (25, .invokestatic 92, 28, 565, 0, 0, 0, 0), (28, .ifCond .eq 53, 31, 81, 0, 0, 0, 0), (31, .aload_n 0, 32, 0, 0, 0, 0, 0), (32, .getfield 28, 35, 187, 0, 0, 2, 3), (35, .aload_n 0, 36, 0, 0, 0, 0, 0), (36, .getfield 52, 39, 188, 0, 0, 2, 4), (39, .isub, 40, 0, 0, 0, 0, 0), (40, .iconst 4, 41, 0, 4, 0, 0, 0), (41, .if_icmp .ge 27, 44, 68, 0, 0, 0, 0), (44, .aload_n 0, 45, 0, 0, 0, 0, 0), (45, .aload_n 0, 46, 0, 0, 0, 0, 0), (46, .getfield 76, 49, 190, 0, 0, 2, 6), (49, .bipush 10, 51, 0, 10, 0, 0, 0), (51, .imul, 52, 0, 0, 0, 0, 0), (52, .aload_n 0, 53, 0, 0, 0, 0, 0), (53, .getfield 11, 56, 184, 0, 0, 2, 1), (56, .aload_n 0, 57, 0, 0, 0, 0, 0), (57, .getfield 28, 60, 187, 0, 0, 2, 3), (60, .iaload, 61, 0, 0, 0, 0, 0), (61, .iadd, 62, 0, 0, 0, 0, 0), (62, .bipush 48, 64, 0, 48, 0, 0, 0), (64, .isub, 65, 0, 0, 0, 0, 0), (65, .putfield 76, 68, 190, 0, 0, 2, 6), (68, .aload_n 0, 69, 0, 0, 0, 0, 0), (69, .dup, 70, 0, 0, 0, 0, 0), (70, .getfield 28, 73, 187, 0, 0, 2, 3), (73, .iconst 1, 74, 0, 1, 0, 0, 0), (74, .iadd, 75, 0, 0, 0, 0, 0), (75, .putfield 28, 78, 187, 0, 0, 2, 3), (78, .goto (-73), 81, 5, 0, 0, 0, 0), (81, .aload_n 0, 82, 0, 0, 0, 0, 0), (82, .getfield 28, 85, 187, 0, 0, 2, 3), (85, .aload_n 0, 86, 0, 0, 0, 0, 0), (86, .getfield 52, 89, 188, 0, 0, 2, 4), (89, .isub, 90, 0, 0, 0, 0, 0), (90, .iconst 4, 91, 0, 4, 0, 0, 0), (91, .if_icmp .gt 7, 94, 98, 0, 0, 0, 0), (94, .iconst 2, 95, 0, 2, 0, 0, 0), (95, .goto 4, 98, 99, 0, 0, 0, 0), (98, .iconst 1, 99, 0, 1, 0, 0, 0), (99, .ireturn, 100, 0, 0, 0, 0, 0)]
def tX3_passWord : List E8 := [(0, .aload_n 0, 1, 0, 0, 0, 0, 0), (1, .getfield 28, 4, 187, 0, 0, 2, 3), (4, .aload_n 0, 5, 0, 0, 0, 0, 0), (5, .getfield 21, 8, 185, 0, 0, 2, 2), (8, .if_icmp .ge 31, 11, 39, 0, 0, 0, 0), (11, .aload_n 0, 12, 0, 0, 0, 0, 0), (12, .getfield 11, 15, 184, 0, 0, 2, 1), (15, .aload_n 0, 16, 0, 0, 0, 0, 0), (16, .getfield 28, 19, 187, 0, 0, 2, 3), (19, .iaload, 20, 0, 0, 0, 0, 0), (20, .invokestatic 86, 23, 491, 0, 0, 0, 0), (23, .ifCond .eq 16, 26, 39, 0, 0, 0, 0), (26, .aload_n 0, 27, 0, 0, 0, 0, 0), (27, .dup, 28, 0, 0, 0, 0, 0), (28, .getfield 28, 31, 187, 0, 0, 2, 3), (31, .iconst 1, 32, 0, 1, 0, 0, 0), (32, .iadd, 33, 0, 0, 0, 0, 0), (33, .putfield 28, 36, 187, 0, 0, 2, 3), (36, .goto (-36), 39, 0, 0, 0, 0, 0), (39, .iconst 0, 40, 0, 0, 0, 0, 0), (40, .istore_n 1, 41, 0, 0, 0, 0, 1), (41, .iload_n 1, 42, 0, 0, 0, 0, 1), (42, .bipush 12, 44, 0, 12, 0, 0, 0), (44, .if_icmp .ge 26, 47, 70, 0, 0, 0, 0), (47, .aload_n 0, 48, 0, 0, 0, 0, 0), (48, .iload_n 1, 49, 0, 0, 0, 0, 1), (49, .invokestatic 101, 52, 498, 0, 0, 0, 0), (52, .invokevirtual 105, 55, 513, 0, 0, 0, 0), (55, .ifCond .eq 9, 58, 64, 0, 0, 0, 0), (58, .sipush 256, 61, 0, 256, 0, 0, 0), (61, .iload_n 1, 62, 0, 0, 0, 0, 1), (62, .iadd, 63, 0, 0, 0, 0, 0), (63, .ireturn, 64, 0, 0, 0, 0, 0), (64, .iinc 1 1, 67, 0, 1, 0, 0, 0), (67, .goto (-26), 70, 41, 0, 0, 0, 0), (70, .iconst 1, 71, 0, 1, 0, 0, 0), (71, .ireturn, 72, 0, 0, 0, 0, 0)]
def tX3_isSpelt : List E8 := [(0, .aload_n 1, 1, 0, 0, 0, 0, 1), (1, .invokevirtual 109, 4, 517, 0, 0, 0, 0), (4, .aload_n 0, 5, 0, 0, 0, 0, 0), (5, .getfield 28, 8, 187, 0, 0, 2, 3), (8, .aload_n 0, 9, 0, 0, 0, 0, 0), (9, .getfield 52, 12, 188, 0, 0, 2, 4), (12, .isub, 13, 0, 0, 0, 0, 0), (13, .if_icmp .ne 7, 16, 20, 0, 0, 0, 0), (16, .iconst 1, 17, 0, 1, 0, 0, 0), (17, .goto 4, 20, 21, 0, 0, 0, 0), (20, .iconst 0, 21, 0, 0, 0, 0, 0), (21, .istore_n 2, 22, 0, 0, 0, 0, 2), (22, .iconst 0, 23, 0, 0, 0, 0, 0), (23, .istore_n 3, 24, 0, 0, 0, 0, 3), (24, .iload_n 2, 25, 0, 0, 0, 0, 2), (25, .ifCond .eq 42, 28, 67, 0, 0, 0, 0), (28, .iload_n 3, 29, 0, 0, 0, 0, 3), (29, .aload_n 1, 30, 0, 0, 0, 0, 1), (30, .invokevirtual 109, 33, 517, 0, 0, 0, 0), (33, .if_icmp .ge 34, 36, 67, 0, 0, 0, 0), (36, .aload_n 0, 37, 0, 0, 0, 0, 0), (37, .getfield 11, 40, 184, 0, 0, 2, 1), (40, .aload_n 0, 41, 0, 0, 0, 0, 0), (41, .getfield 52, 44, 188, 0, 0, 2, 4), (44, .iload_n 3, 45, 0, 0, 0, 0, 3), (45, .iadd, 46, 0, 0, 0, 0, 0), (46, .iaload, 47, 0, 0, 0, 0, 0), (47, .aload_n 1, 48, 0, 0, 0, 0, 1), (48, .iload_n 3, 49, 0, 0, 0, 0, 3), (49, .invokevirtual 114, 52, 527, 0, 0, 0, 0), (52, .if_icmp .ne 7, 55, 59, 0, 0, 0, 0), (55, .iconst 1, 56, 0, 1, 0, 0, 0), (56, .goto 4, 59, 60, 0, 0, 0, 0), (59, .iconst 0, 60, 0, 0, 0, 0, 0), (60, .istore_n 2, 61, 0, 0, 0, 0, 2), (61, .iinc 3 1, 64, 0, 1, 0, 0, 0), (64, .goto (-40), 67, 24, 0, 0, 0, 0), (67, .iload_n 2, 68, 0, 0, 0, 0, 2), (68, .ireturn, 69, 0, 0, 0, 0, 0)]
def tX3_spelling : List E8 := [(0, .iload_n 0, 1, 0, 0, 0, 0, 0), (1, .tableswitch 92 0 10 #[59, 62, 65, 68, 71, 74, 77, 80, 83, 86, 89], 60, 0, 0, 0, 0, 0), (60, .ldc 118, 62, 501, 0, 0, 99, 1000), (62, .areturn, 63, 0, 0, 0, 0, 0), (63, .ldc 119, 65, 502, 0, 0, 99, 1001), (65, .areturn, 66, 0, 0, 0, 0, 0), (66, .ldc 121, 68, 503, 0, 0, 99, 1002), (68, .areturn, 69, 0, 0, 0, 0, 0), (69, .ldc 123, 71, 504, 0, 0, 99, 1003), (71, .areturn, 72, 0, 0, 0, 0, 0), (72, .ldc 125, 74, 505, 0, 0, 99, 1004), (74, .areturn, 75, 0, 0, 0, 0, 0), (75, .ldc 127, 77, 506, 0, 0, 99, 1005), (77, .areturn, 78, 0, 0, 0, 0, 0), (78, .ldc 129, 80, 507, 0, 0, 99, 1006), (80, .areturn, 81, 0, 0, 0, 0, 0), (81, .ldc 131, 83, 508, 0, 0, 99, 1007), (83, .areturn, 84, 0, 0, 0, 0, 0), (84, .ldc 133, 86, 509, 0, 0, 99, 1008), (86, .areturn, 87, 0, 0, 0, 0, 0), (87, .ldc 135, 89, 510, 0, 0, 99, 1009), (89, .areturn, 90, 0, 0, 0, 0, 0), (90, .ldc 137, 92, 511, 0, 0, 99, 1010), (92, .areturn, 93, 0, 0, 0, 0, 0), (93, .ldc 139, 95, 512, 0, 0, 99, 1011), (95, .areturn, 96, 0, 0, 0, 0, 0)]
def tX4_init : List E8 := [(0, .aload_n 0, 1, 0, 0, 0, 0, 0), (1, .invokespecial 1, 4, 287, 0, 0, 0, 0), (4, .aload_n 0, 5, 0, 0, 0, 0, 0), (5, .iconst 4, 6, 0, 4, 0, 0, 0), (6, .newarray .int, 8, 0, 0, 0, 0, 0), (8, .dup, 9, 0, 0, 0, 0, 0), (9, .iconst 0, 10, 0, 0, 0, 0, 0), (10, .iconst (-1), 11, 0, (-1), 0, 0, 0), (11, .iastore, 12, 0, 0, 0, 0, 0), (12, .dup, 13, 0, 0, 0, 0, 0), (13, .iconst 1, 14, 0, 1, 0, 0, 0), (14, .iconst (-1), 15, 0, (-1), 0, 0, 0), (15, .iastore, 16, 0, 0, 0, 0, 0), (16, .dup, 17, 0, 0, 0, 0, 0), (17, .iconst 2, 18, 0, 2, 0, 0, 0), (18, .iconst (-1), 19, 0, (-1), 0, 0, 0), (19, .iastore, 20, 0, 0, 0, 0, 0), (20, .dup, 21, 0, 0, 0, 0, 0), (21, .iconst 3, 22, 0, 3, 0, 0, 0), (22, .iconst (-1), 23, 0, (-1), 0, 0, 0), (23, .iastore, 24, 0, 0, 0, 0, 0), (24, .putfield 9, 27, 288, 0, 0, 3, 0), (27, .aload_n 0, 28, 0, 0, 0, 0, 0), (28, .iconst 4, 29, 0, 4, 0, 0, 0), (29, .newarray .int, 31, 0, 0, 0, 0, 0), (31, .putfield 13, 34, 289, 0, 0, 3, 1), (34, .aload_n 0, 35, 0, 0, 0, 0, 0), (35, .sipush 160, 38, 0, 160, 0, 0, 0), (38, .newarray .int, 40, 0, 0, 0, 0, 0), (40, .putfield 16, 43, 290, 0, 0, 3, 2), (43, .return_, 44, 0, 0, 0, 0, 0)]
def tX4_isSort : List E8 := [(0, .iload_n 0, 1, 0, 0, 0, 0, 0), (1, .ifCond .lt 12, 4, 13, 0, 0, 0, 0), (4, .iload_n 0, 5, 0, 0, 0, 0, 0), (5, .iconst 2, 6, 0, 2, 0, 0, 0), (6, .if_icmp .gt 7, 9, 13, 0, 0, 0, 0), (9, .iconst 1, 10, 0, 1, 0, 0, 0), (10, .goto 4, 13, 14, 0, 0, 0, 0), (13, .iconst 0, 14, 0, 0, 0, 0, 0), (14, .ireturn, 15, 0, 0, 0, 0, 0)]
def tX4_hasPlace : List E8 := [(0, .iload_n 1, 1, 0, 0, 0, 0, 1), (1, .ifCond .lt 12, 4, 13, 0, 0, 0, 0), (4, .iload_n 1, 5, 0, 0, 0, 0, 1), (5, .iconst 4, 6, 0, 4, 0, 0, 0), (6, .if_icmp .ge 7, 9, 13, 0, 0, 0, 0), (9, .iconst 1, 10, 0, 1, 0, 0, 0), (10, .goto 4, 13, 14, 0, 0, 0, 0), (13, .iconst 0, 14, 0, 0, 0, 0, 0), (14, .ireturn, 15, 0, 0, 0, 0, 0)]
def tX4_sortOf : List E8 := [(0, .aload_n 0, 1, 0, 0, 0, 0, 0), (1, .iload_n 1, 2, 0, 0, 0, 0, 1), (2, .invokevirtual 19, 5, 743, 0, 0, 0, 0), (5, .ifCond .eq 12, 8, 17, 0, 0, 0, 0), (8, .aload_n 0, 9, 0, 0, 0, 0, 0), (9, .getfield 9, 12, 288, 0, 0, 3, 0), (12, .iload_n 1, 13, 0, 0, 0, 0, 1), (13, .iaload, 14, 0, 0, 0, 0, 0), (14, .goto 4, 17, 18, 0, 0, 0, 0), (17, .iconst (-1), 18, 0, (-1), 0, 0, 0), (18, .ireturn, 19, 0, 0, 0, 0, 0)]
def tX4_sizeOf : List E8 := [(0, .aload_n 0, 1, 0, 0, 0, 0, 0), (1, .iload_n 1, 2, 0, 0, 0, 0, 1), (2, .invokevirtual 19, 5, 743, 0, 0, 0, 0), (5, .ifCond .eq 12, 8, 17, 0, 0, 0, 0), (8, .aload_n 0, 9, 0, 0, 0, 0, 0), (9, .getfield 13, 12, 289, 0, 0, 3, 1), (12, .iload_n 1, 13, 0, 0, 0, 0, 1), (13, .iaload, 14, 0, 0, 0, 0, 0), (14, .goto 4, 17, 18, 0, 0, 0, 0), (17, .iconst 0, 18, 0, 0, 0, 0, 0), (18, .ireturn, 19, 0, 0, 0, 0, 0)]
def tX4_isMissing : List E8 := [(0, .aload_n 0, 1, 0, 0, 0, 0, 0), (1, .iload_n 1, 2, 0, 0, 0, 0, 1), (2, .invokevirtual 23, 5, 739, 0, 0, 0, 0), (5, .iconst (-1), 6, 0, (-1), 0, 0, 0), (6, .if_icmp .ne 7, 9, 13, 0, 0, 0, 0), (9, .iconst 1, 10, 0, 1, 0, 0, 0), (10, .goto 4, 13, 14, 0, 0, 0, 0), (13, .iconst 0, 14, 0, 0, 0, 0, 0), (14, .ireturn, 15, 0, 0, 0, 0, 0)]
def tX4_hasItem : List E8 := [(0, .iload_n 2, 1, 0, 0, 0, 0, 2), (1, .ifCond .lt 22, 4, 23, 0, 0, 0, 0), (4, .iload_n 2, 5, 0, 0, 0, 0, 2), (5, .aload_n 0, 6, 0, 0, 0, 0, 0), (6, .iload_n 1, 7, 0, 0, 0, 0, 1), (7, .invokevirtual 27, 10, 756, 0, 0, 0, 0), (10, .if_icmp .ge 13, 13, 23, 0, 0, 0, 0), (13, .iload_n 2, 14, 0, 0, 0, 0, 2), (14, .bipush 40, 16, 0, 40, 0, 0, 0), (16, .if_icmp .ge 7, 19, 23, 0, 0, 0, 0), (19, .iconst 1, 20, 0, 1, 0, 0, 0), (20, .goto 4, 23, 24, 0, 0, 0, 0), (23, .iconst 0, 24, 0, 0, 0, 0, 0), (24, .ireturn, 25, 0, 0, 0, 0, 0)]
def tX4_hasItems : List E8 := [(0, .iload_n 2, 1, 0, 0, 0, 0, 2), (1, .ifCond .lt 28, 4, 29, 0, 0, 0, 0), (4, .iload_n 3, 5, 0, 0, 0, 0, 3), (5, .ifCond .lt 24, 8, 29, 0, 0, 0, 0), (8, .iload_n 3, 9, 0, 0, 0, 0, 3), (9, .bipush 40, 11, 0, 40, 0, 0, 0), (11, .if_icmp .gt 18, 14, 29, 0, 0, 0, 0), (14, .iload_n 2, 15, 0, 0, 0, 0, 2), (15, .aload_n 0, 16, 0, 0, 0, 0, 0), (16, .iload_n 1, 17, 0, 0, 0, 0, 1), (17, .invokevirtual 27, 20, 756, 0, 0, 0, 0), (20, .iload_n 3, 21, 0, 0, 0, 0, 3), (21, .isub, 22, 0, 0, 0, 0, 0), (22, .if_icmp .gt 7, 25, 29, 0, 0, 0, 0), (25, .iconst 1, 26, 0, 1, 0, 0, 0), (26, .goto 4, 29, 30, 0, 0, 0, 0), (29, .iconst 0, 30, 0, 0, 0, 0, 0), (30, .ireturn, 31, 0, 0, 0, 0, 0)]
def tX4_lay : List E8 := [(0, .aload_n 0, 1, 0, 0, 0, 0, 0), (1, .iload_n 1, 2, 0, 0, 0, 0, 1), (2, .invokevirtual 19, 5, 743, 0, 0, 0, 0), (5, .ifCond .eq 13, 8, 18, 0, 0, 0, 0), (8, .iload_n 3, 9, 0, 0, 0, 0, 3), (9, .ifCond .lt 9, 12, 18, 0, 0, 0, 0), (12, .iload_n 3, 13, 0, 0, 0, 0, 3), (13, .bipush 40, 15, 0, 40, 0, 0, 0), (15, .if_icmp .le 4, 18, 19, 0, 0, 0, 0), (18, .return_, 19, 0, 0, 0, 0, 0), (19, .aload_n 0, 20, 0, 0, 0, 0, 0), (20, .getfield 9, 23, 288, 0, 0, 3, 0), (23, .iload_n 1, 24, 0, 0, 0, 0, 1), (24, .iload_n 2, 25, 0, 0, 0, 0, 2), (25, .iastore, 26, 0, 0, 0, 0, 0), (26, .aload_n 0, 27, 0, 0, 0, 0, 0), (27, .getfield 13, 30, 289, 0, 0, 3, 1), (30, .iload_n 1, 31, 0, 0, 0, 0, 1), (31, .iload_n 3, 32, 0, 0, 0, 0, 3), (32, .iastore, 33, 0, 0, 0, 0, 0), (33, .iconst 0, 34, 0, 0, 0, 0, 0), (34, .istore 4, 36, 0, 0, 0, 0, 4), (36, .iload 4, 38, 0, 0, 0, 0, 4), (38, .iload_n 3, 39, 0, 0, 0, 0, 3), (39, .if_icmp .ge 22, 42, 61, 0, 0, 0, 0), (42, .aload_n 0, 43, 0, 0, 0, 0, 0), (43, .getfield 16, 46, 290, 0, 0, 3, 2), (46, .iload_n 1, 47, 0, 0, 0, 0, 1), (47, .bipush 40, 49, 0, 40, 0, 0, 0), (49, .imul, 50, 0, 0, 0, 0, 0), (50, .iload 4, 52, 0, 0, 0, 0, 4), (52, .iadd, 53, 0, 0, 0, 0, 0), (53, .iconst 0, 54, 0, 0, 0, 0, 0), (54, .iastore, 55, 0, 0, 0, 0, 0), (55, .iinc 4 1, 58, 0, 1, 0, 0, 0), (58, .goto (-22), 61, 36, 0, 0, 0, 0), (61, .return_, 62, 0, 0, 0, 0, 0)]
def tX4_store : List E8 := [(0, .aload_n 0, 1, 0, 0, 0, 0, 0), (1, .iload_n 1, 2, 0, 0, 0, 0, 1), (2, .iload_n 2, 3, 0, 0, 0, 0, 2), (3, .invokevirtual 30, 6, 752, 0, 0, 0, 0), (6, .ifCond .ne 4, 9, 10, 0, 0, 0, 0), (9, .return_, 10, 0, 0, 0, 0, 0), (10, .aload_n 0, 11, 0, 0, 0, 0, 0), (11, .iload_n 1, 12, 0, 0, 0, 0, 1), (12, .invokevirtual 23, 15, 739, 0, 0, 0, 0), (15, .istore 4, 17, 0, 0, 0, 0, 4), (17, .aload_n 0, 18, 0, 0, 0, 0, 0), (18, .getfield 16, 21, 290, 0, 0, 3, 2), (21, .iload_n 1, 22, 0, 0, 0, 0, 1), (22, .bipush 40, 24, 0, 40, 0, 0, 0), (24, .imul, 25, 0, 0, 0, 0, 0), (25, .iload_n 2, 26, 0, 0, 0, 0, 2), (26, .iadd, 27, 0, 0, 0, 0, 0), (27, .iload 4, 29, 0, 0, 0, 0, 4), (29, .ifCond .ne 8, 32, 37, 0, 0, 0, 0), (32, .iload_n 3, 33, 0, 0, 0, 0, 3), (33, .i2b, 34, 0, 0, 0, 0, 0), (34, .goto 15, 37, 49, 0, 0, 0, 0), (37, .iload 4, 39, 0, 0, 0, 0, 4), (39, .iconst 1, 40, 0, 1, 0, 0, 0), (40, .if_icmp .ne 8, 43, 48, 0, 0, 0, 0), (43, .iload_n 3, 44, 0, 0, 0, 0, 3), (44, .i2s, 45, 0, 0, 0, 0, 0), (45, .goto 4, 48, 49, 0, 0, 0, 0), (48, .iload_n 3, 49, 0, 0, 0, 0, 3), (49, .iastore, 50, 0, 0, 0, 0, 0), (50, .return_, 51, 0, 0, 0, 0, 0)]
def tX4_valueAt : List E8 := [(0, .aload_n 0, 1, 0, 0, 0, 0, 0), (1, .iload_n 1, 2, 0, 0, 0, 0, 1), (2, .iload_n 2, 3, 0, 0, 0, 0, 2), (3, .invokevirtual 30, 6, 752, 0, 0, 0, 0), (6, .ifCond .eq 17, 9, 23, 0, 0, 0, 0), (9, .aload_n 0, 10, 0, 0, 0, 0, 0), (10, .getfield 16, 13, 290, 0, 0, 3, 2), (13, .iload_n 1, 14, 0, 0, 0, 0, 1), (14, .bipush 40, 16, 0, 40, 0, 0, 0), (16, .imul, 17, 0, 0, 0, 0, 0), (17, .iload_n 2, 18, 0, 0, 0, 0, 2), (18, .iadd, 19, 0, 0, 0, 0, 0), (19, .iaload, 20, 0, 0, 0, 0, 0), (20, .goto 4, 23, 24, 0, 0, 0, 0), (23, .iconst 0, 24, 0, 0, 0, 0, 0), (24, .ireturn, 25, 0, 0, 0, 0, 0)]
def tX4_move : List E8 := [(0, .aload_n 0, 1, 0, 0, 0, 0, 0), (1, .iload_n 1, 2, 0, 0, 0, 0, 1), (2, .iload_n 2, 3, 0, 0, 0, 0, 2), (3, .iload 5, 5, 0, 0, 0, 0, 5), (5, .invokevirtual 34, 8, 856, 0, 0, 0, 0), (8, .ifCond .eq 41, 11, 49, 0, 0, 0, 0), (11, .aload_n 0, 12, 0, 0, 0, 0, 0), (12, .iload_n 3, 13, 0, 0, 0, 0, 3), (13, .iload 4, 15, 0, 0, 0, 0, 4), (15, .iload 5, 17, 0, 0, 0, 0, 5), (17, .invokevirtual 34, 20, 856, 0, 0, 0, 0), (20, .ifCond .eq 29, 23, 49, 0, 0, 0, 0), (23, .aload_n 0, 24, 0, 0, 0, 0, 0), (24, .getfield 16, 27, 290, 0, 0, 3, 2), (27, .iload_n 1, 28, 0, 0, 0, 0, 1), (28, .bipush 40, 30, 0, 40, 0, 0, 0), (30, .imul, 31, 0, 0, 0, 0, 0), (31, .iload_n 2, 32, 0, 0, 0, 0, 2), (32, .iadd, 33, 0, 0, 0, 0, 0), (33, .aload_n 0, 34, 0, 0, 0, 0, 0), (34, .getfield 16, 37, 290, 0, 0, 3, 2), (37, .iload_n 3, 38, 0, 0, 0, 0, 3), (38, .bipush 40, 40, 0, 40, 0, 0, 0), (40, .imul, 41, 0, 0, 0, 0, 0), (41, .iload 4, 43, 0, 0, 0, 0, 4), (43, .iadd, 44, 0, 0, 0, 0, 0), (44, .iload 5, 46, 0, 0, 0, 0, 5), (46, .invokestatic 38, 49, 857, 0, 0, 0, 0), (49, .return_, 50, 0, 0, 0, 0, 0)]
def tX5_init : List E8 := [(0, .aload_n 0, 1, 0, 0, 0, 0, 0), (1, .invokespecial 1, 4, 139, 0, 0, 0, 0), (4, .aload_n 0, 5, 0, 0, 0, 0, 0), (5, .sipush 960, 8, 0, 960, 0, 0, 0), (8, .newarray .int, 10, 0, 0, 0, 0, 0), (10, .putfield 9, 13, 162, 0, 0, 4, 2), (13, .aload_n 0, 14, 0, 0, 0, 0, 0), (14, .bipush 18, 16, 0, 18, 0, 0, 0), (16, .newarray .int, 18, 0, 0, 0, 0, 0), (18, .putfield 13, 21, 163, 0, 0, 4, 3), (21, .aload_n 0, 22, 0, 0, 0, 0, 0), (22, .sipush 160, 25, 0, 160, 0, 0, 0), (25, .newarray .int, 27, 0, 0, 0, 0, 0), (27, .putfield 16, 30, 164, 0, 0, 4, 4), (30, .aload_n 0, 31, 0, 0, 0, 0, 0), (31, .invokevirtual 19, 34, 140, 0, 0, 0, 0), (34, .aload_n 0, 35, 0, 0, 0, 0, 0), (35, .iconst 1, 36, 0, 1, 0, 0, 0), (36, .invokestatic 22, 39, 144, 0, 0, 0, 0), (39, .invokevirtual 26, 42, 147, 0, 0, 0, 0), (42, .aload_n 0, 43, 0, 0, 0, 0, 0), (43, .iconst 0, 44, 0, 0, 0, 0, 0), (44, .invokevirtual 30, 47, 151, 0, 0, 0, 0), (47, .aload_n 0, 48, 0, 0, 0, 0, 0), (48, .iconst 3, 49, 0, 3, 0, 0, 0), (49, .invokevirtual 26, 52, 147, 0, 0, 0, 0), (52, .aload_n 0, 53, 0, 0, 0, 0, 0), (53, .iconst 1, 54, 0, 1, 0, 0, 0), (54, .invokevirtual 30, 57, 151, 0, 0, 0, 0), (57, .aload_n 0, 58, 0, 0, 0, 0, 0), (58, .iconst 1, 59, 0, 1, 0, 0, 0), (59, .invokevirtual 26, 62, 147, 0, 0, 0, 0), (62, .aload_n 0, 63, 0, 0, 0, 0, 0), (63, .iconst 2, 64, 0, 2, 0, 0, 0), (64, .invokevirtual 30, 67, 151, 0, 0, 0, 0), (67, .aload_n 0, 68, 0, 0, 0, 0, 0), (68, .invokevirtual 33, 71, 155, 0, 0, 0, 0), (71, .pop, 72, 0, 0, 0, 0, 0), (72, .return_, 73, 0, 0, 0, 0, 0)]
def tX5_cellOfName : List E8 := [(0, .iconst (-1), 1, 0, (-1), 0, 0, 0), (1, .iload_n 0, 2, 0, 0, 0, 0, 0), (2, .isub, 3, 0, 0, 0, 0, 0), (3, .ireturn, 4, 0, 0, 0, 0, 0)]
def tX5_isFull : List E8 := [(0, .aload_n 0, 1, 0, 0, 0, 0, 0), (1, .getfield 37, 4, 159, 0, 0, 4, 0), (4, .bipush 6, 6, 0, 6, 0, 0, 0), (6, .if_icmp .lt 7, 9, 13, 0, 0, 0, 0), (9, .iconst 1, 10, 0, 1, 0, 0, 0), (10, .goto 4, 13, 14, 0, 0, 0, 0), (13, .iconst 0, 14, 0, 0, 0, 0, 0), (14, .ireturn, 15, 0, 0, 0, 0, 0)]
def tX5_hasText : List E8 := [(0, .iload_n 1, 1, 0, 0, 0, 0, 1), (1, .ifCond .lt 21, 4, 22, 0, 0, 0, 0), (4, .iload_n 1, 5, 0, 0, 0, 0, 1), (5, .aload_n 0, 6, 0, 0, 0, 0, 0), (6, .getfield 37, 9, 159, 0, 0, 4, 0), (9, .if_icmp .ge 13, 12, 22, 0, 0, 0, 0), (12, .iload_n 1, 13, 0, 0, 0, 0, 1), (13, .bipush 6, 15, 0, 6, 0, 0, 0), (15, .if_icmp .ge 7, 18, 22, 0, 0, 0, 0), (18, .iconst 1, 19, 0, 1, 0, 0, 0), (19, .goto 4, 22, 23, 0, 0, 0, 0), (22, .iconst 0, 23, 0, 0, 0, 0, 0), (23, .ireturn, 24, 0, 0, 0, 0, 0)]
def tX5_begin : List E8 := [(0, .aload_n 0, 1, 0, 0, 0, 0, 0), (1, .iconst 0, 2, 0, 0, 0, 0, 0), (2, .putfield 41, 5, 161, 0, 0, 4, 1), (5, .return_, 6, 0, 0, 0, 0, 0)]
def tX5_put : List E8 := [(0, .aload_n 0, 1, 0, 0, 0, 0, 0), (1, .getfield 37, 4, 159, 0, 0, 4, 0), (4, .bipush 6, 6, 0, 6, 0, 0, 0), (6, .if_icmp .ge 42, 9, 48, 0, 0, 0, 0), (9, .aload_n 0, 10, 0, 0, 0, 0, 0), (10, .getfield 41, 13, 161, 0, 0, 4, 1), (13, .sipush 160, 16, 0, 160, 0, 0, 0), (16, .if_icmp .ge 32, 19, 48, 0, 0, 0, 0), (19, .aload_n 0, 20, 0, 0, 0, 0, 0), (20, .getfield 9, 23, 162, 0, 0, 4, 2), (23, .aload_n 0, 24, 0, 0, 0, 0, 0), (24, .getfield 37, 27, 159, 0, 0, 4, 0), (27, .sipush 160, 30, 0, 160, 0, 0, 0), (30, .imul, 31, 0, 0, 0, 0, 0), (31, .aload_n 0, 32, 0, 0, 0, 0, 0), (32, .getfield 41, 35, 161, 0, 0, 4, 1), (35, .iadd, 36, 0, 0, 0, 0, 0), (36, .iload_n 1, 37, 0, 0, 0, 0, 1), (37, .iastore, 38, 0, 0, 0, 0, 0), (38, .aload_n 0, 39, 0, 0, 0, 0, 0), (39, .dup, 40, 0, 0, 0, 0, 0), (40, .getfield 41, 43, 161, 0, 0, 4, 1), (43, .iconst 1, 44, 0, 1, 0, 0, 0), (44, .iadd, 45, 0, 0, 0, 0, 0), (45, .putfield 41, 48, 161, 0, 0, 4, 1), (48, .return_, 49, 0, 0, 0, 0, 0)]
def tX5_endPart : List E8 := [(0, .aload_n 0, 1, 0, 0, 0, 0, 0), (1, .getfield 37, 4, 159, 0, 0, 4, 0), (4, .bipush 6, 6, 0, 6, 0, 0, 0), (6, .if_icmp .ge 29, 9, 35, 0, 0, 0, 0), (9, .iload_n 1, 10, 0, 0, 0, 0, 1), (10, .ifCond .lt 25, 13, 35, 0, 0, 0, 0), (13, .iload_n 1, 14, 0, 0, 0, 0, 1), (14, .iconst 3, 15, 0, 3, 0, 0, 0), (15, .if_icmp .ge 20, 18, 35, 0, 0, 0, 0), (18, .aload_n 0, 19, 0, 0, 0, 0, 0), (19, .getfield 13, 22, 163, 0, 0, 4, 3), (22, .aload_n 0, 23, 0, 0, 0, 0, 0), (23, .getfield 37, 26, 159, 0, 0, 4, 0), (26, .iconst 3, 27, 0, 3, 0, 0, 0), (27, .imul, 28, 0, 0, 0, 0, 0), (28, .iload_n 1, 29, 0, 0, 0, 0, 1), (29, .iadd, 30, 0, 0, 0, 0, 0), (30, .aload_n 0, 31, 0, 0, 0, 0, 0), (31, .getfield 41, 34, 161, 0, 0, 4, 1), (34, .iastore, 35, 0, 0, 0, 0, 0), (35, .return_, 36, 0, 0, 0, 0, 0)]
def tX5_keep : List E8 := [(0, .aload_n 0, 1, 0, 0, 0, 0, 0), (1, .dup, 2, 0, 0, 0, 0, 0), (2, .getfield 37, 5, 159, 0, 0, 4, 0), (5, .dup_x1, 6, 0, 0, 0, 0, 0), (6, .iconst 1, 7, 0, 1, 0, 0, 0), (7, .iadd, 8, 0, 0, 0, 0, 0), (8, .putfield 37, 11, 159, 0, 0, 4, 0), (11, .ireturn, 12, 0, 0, 0, 0, 0)]
def tX5_value : List E8 := [(0, .aload_n 0, 1, 0, 0, 0, 0, 0), (1, .iload_n 1, 2, 0, 0, 0, 0, 1), (2, .invokevirtual 44, 5, 374, 0, 0, 0, 0), (5, .ifCond .eq 12, 8, 17, 0, 0, 0, 0), (8, .iload_n 2, 9, 0, 0, 0, 0, 2), (9, .ifCond .lt 8, 12, 17, 0, 0, 0, 0), (12, .iload_n 2, 13, 0, 0, 0, 0, 2), (13, .iconst 2, 14, 0, 2, 0, 0, 0), (14, .if_icmp .le 5, 17, 19, 0, 0, 0, 0), (17, .iconst 0, 18, 0, 0, 0, 0, 0), (18, .ireturn, 19, 0, 0, 0, 0, 0), (19, .iload_n 2, 20, 0, 0, 0, 0, 2), (20, .ifCond .ne 7, 23, 27, 0, 0, 0, 0), (23, .iconst 0, 24, 0, 0, 0, 0, 0), (24, .goto 15, 27, 39, 0, 0, 0, 0), (27, .aload_n 0, 28, 0, 0, 0, 0, 0), (28, .getfield 13, 31, 163, 0, 0, 4, 3), (31, .iload_n 1, 32, 0, 0, 0, 0, 1), (32, .iconst 3, 33, 0, 3, 0, 0, 0), (33, .imul, 34, 0, 0, 0, 0, 0), (34, .iload_n 2, 35, 0, 0, 0, 0, 2), (35, .iadd, 36, 0, 0, 0, 0, 0), (36, .iconst 1, 37, 0, 1, 0, 0, 0), (37, .isub, 38, 0, 0, 0, 0, 0), (38, .iaload, 39, 0, 0, 0, 0, 0), (39, .istore 4, 41, 0, 0, 0, 0, 4), (41, .aload_n 0, 42, 0, 0, 0, 0, 0), (42, .getfield 13, 45, 163, 0, 0, 4, 3), (45, .iload_n 1, 46, 0, 0, 0, 0, 1), (46, .iconst 3, 47, 0, 3, 0, 0, 0), (47, .imul, 48, 0, 0, 0, 0, 0), (48, .iload_n 2, 49, 0, 0, 0, 0, 2), (49, .iadd, 50, 0, 0, 0, 0, 0), (50, .iaload, 51, 0, 0, 0, 0, 0), (51, .istore 5, 53, 0, 0, 0, 0, 5), (53, .iconst 0, 54, 0, 0, 0, 0, 0), (54, .istore 6, 56, 0, 0, 0, 0, 6), (56, .iload 4, 58, 0, 0, 0, 0, 4), (58, .istore 7, 60, 0, 0, 0, 0, 7), (60, .iload 7, 62, 0, 0, 0, 0, 7), (62, .ifCond .lt 206, 65, 268, 0, 0, 0, 0), (65, .iload 7, 67, 0, 0, 0, 0, 7), (67, .iload 5, 69, 0, 0, 0, 0, 5), (69, .if_icmp .ge 199, 72, 268, 0, 0, 0, 0), (72, .iload 7, 74, 0, 0, 0, 0, 7), (74, .sipush 160, 77, 0, 160, 0, 0, 0), (77, .if_icmp .ge 191, 80, 268, 0, 0, 0, 0), (80, .aload_n 0, 81, 0, 0, 0, 0, 0), (81, .getfield 9, 84, 162, 0, 0, 4, 2), (84, .iload_n 1, 85, 0, 0, 0, 0, 1), (85, .sipush 160, 88, 0, 160, 0, 0, 0), (88, .imul, 89, 0, 0, 0, 0, 0), (89, .iload 7, 91, 0, 0, 0, 0, 7), (91, .iadd, 92, 0, 0, 0, 0, 0), (92, .iaload, 93, 0, 0, 0, 0, 0), (93, .istore 8, 95, 0, 0, 0, 0, 8), (95, .iload 8, 97, 0, 0, 0, 0, 8), (97, .bipush (-10), 99, 0, (-10), 0, 0, 0), (99, .if_icmp .le 40, 102, 139, 0, 0, 0, 0), (102, .iload 6, 104, 0, 0, 0, 0, 6), (104, .sipush 160, 107, 0, 160, 0, 0, 0), (107, .if_icmp .ge 32, 110, 139, 0, 0, 0, 0), (110, .aload_n 0, 111, 0, 0, 0, 0, 0), (111, .getfield 16, 114, 164, 0, 0, 4, 4), (114, .iload 6, 116, 0, 0, 0, 0, 6), (116, .iload 8, 118, 0, 0, 0, 0, 8), (118, .ifCond .lt 8, 121, 126, 0, 0, 0, 0), (121, .iload 8, 123, 0, 0, 0, 0, 8), (123, .goto 9, 126, 132, 0, 0, 0, 0), (126, .iload 8, 128, 0, 0, 0, 0, 8), (128, .aload_n 3, 129, 0, 0, 0, 0, 3), (129, .invokestatic 48, 132, 378, 0, 0, 0, 0), (132, .iastore, 133, 0, 0, 0, 0, 0), (133, .iinc 6 1, 136, 0, 1, 0, 0, 0), (136, .goto 126, 139, 262, 0, 0, 0, 0), (139, .iload 8, 141, 0, 0, 0, 0, 8), (141, .bipush (-10), 143, 0, (-10), 0, 0, 0), (143, .if_icmp .ne 38, 146, 181, 0, 0, 0, 0), (146, .iload 6, 148, 0, 0, 0, 0, 6), (148, .iconst 1, 149, 0, 1, 0, 0, 0), (149, .if_icmp .lt 32, 152, 181, 0, 0, 0, 0), (152, .aload_n 0, 153, 0, 0, 0, 0, 0), (153, .getfield 16, 156, 164, 0, 0, 4, 4), (156, .iload 6, 158, 0, 0, 0, 0, 6), (158, .iconst 1, 159, 0, 1, 0, 0, 0), (159, .isub, 160, 0, 0, 0, 0, 0), (160, .aload_n 0, 161, 0, 0, 0, 0, 0), (161, .getfield 16, 164, 164, 0, 0, 4, 4), (164, .iload 6, 166, 0, 0, 0, 0, 6), (166, .iconst 1, 167, 0, 1, 0, 0, 0), (167, .isub, 168, 0, 0, 0, 0, 0), (168, .iaload, 169, 0, 0, 0, 0, 0), (169, .ifCond .ne 7, 172, 176, 0, 0, 0, 0), (172, .iconst 1, 173, 0, 1, 0, 0, 0), (173, .goto 4, 176, 177, 0, 0, 0, 0), (176, .iconst 0, 177, 0, 0, 0, 0, 0), (177, .iastore, 178, 0, 0, 0, 0, 0), (178, .goto 84, 181, 262, 0, 0, 0, 0), (181, .iload 8, 183, 0, 0, 0, 0, 8), (183, .bipush (-11), 185, 0, (-11), 0, 0, 0), (185, .if_icmp .ne 31, 188, 216, 0, 0, 0, 0), (188, .iload 6, 190, 0, 0, 0, 0, 6), (190, .iconst 1, 191, 0, 1, 0, 0, 0), (191, .if_icmp .lt 25, 194, 216, 0, 0, 0, 0), (194, .aload_n 0, 195, 0, 0, 0, 0, 0), (195, .getfield 16, 198, 164, 0, 0, 4, 4), (198, .iload 6, 200, 0, 0, 0, 0, 6), (200, .iconst 1, 201, 0, 1, 0, 0, 0), (201, .isub, 202, 0, 0, 0, 0, 0), (202, .aload_n 0, 203, 0, 0, 0, 0, 0), (203, .getfield 16, 206, 164, 0, 0, 4, 4), (206, .iload 6, 208, 0, 0, 0, 0, 6), (208, .iconst 1, 209, 0, 1, 0, 0, 0), (209, .isub, 210, 0, 0, 0, 0, 0), (210, .iaload, 211, 0, 0, 0, 0, 0), (211, .ineg, 212, 0, 0, 0, 0, 0), (212, .iastore, 213, 0, 0, 0, 0, 0), (213, .goto 49, 216, 262, 0, 0, 0, 0), (216, .iload 8, 218, 0, 0, 0, 0, 8), (218, .bipush (-20), 220, 0, (-20), 0, 0, 0), (220, .if_icmp .gt 42, 223, 262, 0, 0, 0, 0), (223, .iload 6, 225, 0, 0, 0, 0, 6), (225, .iconst 2, 226, 0, 2, 0, 0, 0), (226, .if_icmp .lt 36, 229, 262, 0, 0, 0, 0), (229, .iinc 6 (-1), 232, 0, (-1), 0, 0, 0), (232, .aload_n 0, 233, 0, 0, 0, 0, 0), (233, .getfield 16, 236, 164, 0, 0, 4, 4), (236, .iload 6, 238, 0, 0, 0, 0, 6), (238, .iconst 1, 239, 0, 1, 0, 0, 0), (239, .isub, 240, 0, 0, 0, 0, 0), (240, .iload 8, 242, 0, 0, 0, 0, 8), (242, .aload_n 0, 243, 0, 0, 0, 0, 0), (243, .getfield 16, 246, 164, 0, 0, 4, 4), (246, .iload 6, 248, 0, 0, 0, 0, 6), (248, .iconst 1, 249, 0, 1, 0, 0, 0), (249, .isub, 250, 0, 0, 0, 0, 0), (250, .iaload, 251, 0, 0, 0, 0, 0), (251, .aload_n 0, 252, 0, 0, 0, 0, 0), (252, .getfield 16, 255, 164, 0, 0, 4, 4), (255, .iload 6, 257, 0, 0, 0, 0, 6), (257, .iaload, 258, 0, 0, 0, 0, 0), (258, .invokestatic 52, 261, 381, 0, 0, 0, 0), (261, .iastore, 262, 0, 0, 0, 0, 0), (262, .iinc 7 1, 265, 0, 1, 0, 0, 0), (265, .goto (-205), 268, 60, 0, 0, 0, 0), (268, .iload_n 2, 269, 0, 0, 0, 0, 2), (269, .ifCond .ne 12, 272, 281, 0, 0, 0, 0), (272, .aload_n 0, 273, 0, 0, 0, 0, 0), (273, .getfield 16, 276, 164, 0, 0, 4, 4), (276, .iconst 0, 277, 0, 0, 0, 0, 0), (277, .iaload, 278, 0, 0, 0, 0, 0), (278, .goto 18, 281, 296, 0, 0, 0, 0), (281, .iconst 0, 282, 0, 0, 0, 0, 0), (282, .bipush 60, 284, 0, 60, 0, 0, 0), (284, .aload_n 0, 285, 0, 0, 0, 0, 0), (285, .getfield 16, 288, 164, 0, 0, 4, 4), (288, .iconst 0, 289, 0, 0, 0, 0, 0), (289, .iaload, 290, 0, 0, 0, 0, 0), (290, .invokestatic 56, 293, 384, 0, 0, 0, 0), (293, .invokestatic 62, 296, 387, 0, 0, 0, 0), (296, .ireturn, 297, 0, 0, 0, 0, 0)]
def tX5_valueOfName : List E8 := [(0, .iconst (-1), 1, 0, (-1), 0, 0, 0), (1, .iload_n 0, 2, 0, 0, 0, 0, 0), (2, .isub, 3, 0, 0, 0, 0, 0), (3, .istore_n 2, 4, 0, 0, 0, 0, 2), (4, .iload_n 2, 5, 0, 0, 0, 0, 2), (5, .ifCond .lt 15, 8, 20, 0, 0, 0, 0), (8, .iload_n 2, 9, 0, 0, 0, 0, 2), (9, .aload_n 1, 10, 0, 0, 0, 0, 1), (10, .arraylength, 11, 0, 0, 0, 0, 0), (11, .if_icmp .ge 9, 14, 20, 0, 0, 0, 0), (14, .aload_n 1, 15, 0, 0, 0, 0, 1), (15, .iload_n 2, 16, 0, 0, 0, 0, 2), (16, .iaload, 17, 0, 0, 0, 0, 0), (17, .goto 4, 20, 21, 0, 0, 0, 0), (20, .iconst 0, 21, 0, 0, 0, 0, 0), (21, .ireturn, 22, 0, 0, 0, 0, 0)]
def tX5_ofBoth : List E8 := [(0, .iload_n 0, 1, 0, 0, 0, 0, 0), (1, .tableswitch 97 (-25) (-20) #[93, 89, 78, 67, 53, 39], 40, 0, 0, 0, 0, 0), (40, .iload_n 1, 41, 0, 0, 0, 0, 1), (41, .ifCond .ne 7, 44, 48, 0, 0, 0, 0), (44, .iload_n 2, 45, 0, 0, 0, 0, 2), (45, .ifCond .eq 7, 48, 52, 0, 0, 0, 0), (48, .iconst 1, 49, 0, 1, 0, 0, 0), (49, .goto 4, 52, 53, 0, 0, 0, 0), (52, .iconst 0, 53, 0, 0, 0, 0, 0), (53, .ireturn, 54, 0, 0, 0, 0, 0), (54, .iload_n 1, 55, 0, 0, 0, 0, 1), (55, .ifCond .eq 11, 58, 66, 0, 0, 0, 0), (58, .iload_n 2, 59, 0, 0, 0, 0, 2), (59, .ifCond .eq 7, 62, 66, 0, 0, 0, 0), (62, .iconst 1, 63, 0, 1, 0, 0, 0), (63, .goto 4, 66, 67, 0, 0, 0, 0), (66, .iconst 0, 67, 0, 0, 0, 0, 0), (67, .ireturn, 68, 0, 0, 0, 0, 0), (68, .iload_n 1, 69, 0, 0, 0, 0, 1), (69, .iload_n 2, 70, 0, 0, 0, 0, 2), (70, .if_icmp .ge 7, 73, 77, 0, 0, 0, 0), (73, .iconst 1, 74, 0, 1, 0, 0, 0), (74, .goto 4, 77, 78, 0, 0, 0, 0), (77, .iconst 0, 78, 0, 0, 0, 0, 0), (78, .ireturn, 79, 0, 0, 0, 0, 0), (79, .iload_n 1, 80, 0, 0, 0, 0, 1), (80, .iload_n 2, 81, 0, 0, 0, 0, 2), (81, .if_icmp .ne 7, 84, 88, 0, 0, 0, 0), (84, .iconst 1, 85, 0, 1, 0, 0, 0), (85, .goto 4, 88, 89, 0, 0, 0, 0), (88, .iconst 0, 89, 0, 0, 0, 0, 0), (89, .ireturn, 90, 0, 0, 0, 0, 0), (90, .iload_n 1, 91, 0, 0, 0, 0, 1), (91, .iload_n 2, 92, 0, 0, 0, 0, 2), (92, .iadd, 93, 0, 0, 0, 0, 0), (93, .ireturn, 94, 0, 0, 0, 0, 0), (94, .iload_n 1, 95, 0, 0, 0, 0, 1), (95, .iload_n 2, 96, 0, 0, 0, 0, 2), (96, .isub, 97, 0, 0, 0, 0, 0), (97, .ireturn, 98, 0, 0, 0, 0, 0), (98, .iload_n 1, 99, 0, 0, 0, 0, 1), (99, .iload_n 2, 100, 0, 0, 0, 0, 2), (100, .imul, 101, 0, 0, 0, 0, 0), (101, .ireturn, 102, 0, 0, 0, 0, 0)]
def tX6_init : List E8 := [(0, .aload_n 0, 1, 0, 0, 0, 0, 0), (1, .invokespecial 1, 4, 131, 0, 0, 0, 0), (4, .aload_n 0, 5, 0, 0, 0, 0, 0), (5, .new 7, 8, 134, 0, 0, 4, 135), (8, .dup, 9, 0, 0, 0, 0, 0), (9, .invokespecial 9, 12, 136, 0, 0, 0, 1), (12, .putfield 10, 15, 298, 0, 0, 5, 0), (15, .aload_n 0, 16, 0, 0, 0, 0, 0), (16, .new 16, 19, 177, 0, 0, 2, 178), (19, .dup, 20, 0, 0, 0, 0, 0), (20, .aload_n 0, 21, 0, 0, 0, 0, 0), (21, .getfield 10, 24, 298, 0, 0, 5, 0), (24, .invokespecial 18, 27, 179, 0, 0, 0, 1), (27, .putfield 21, 30, 299, 0, 0, 5, 1), (30, .aload_n 0, 31, 0, 0, 0, 0, 0), (31, .new 25, 34, 206, 0, 0, 0, 207), (34, .dup, 35, 0, 0, 0, 0, 0), (35, .aload_n 0, 36, 0, 0, 0, 0, 0), (36, .getfield 10, 39, 298, 0, 0, 5, 0), (39, .invokespecial 27, 42, 208, 0, 0, 0, 1), (42, .putfield 28, 45, 300, 0, 0, 5, 2), (45, .aload_n 0, 46, 0, 0, 0, 0, 0), (46, .new 25, 49, 206, 0, 0, 0, 207), (49, .dup, 50, 0, 0, 0, 0, 0), (50, .aload_n 0, 51, 0, 0, 0, 0, 0), (51, .getfield 10, 54, 298, 0, 0, 5, 0), (54, .invokespecial 27, 57, 208, 0, 0, 0, 1), (57, .putfield 32, 60, 301, 0, 0, 5, 3), (60, .aload_n 0, 61, 0, 0, 0, 0, 0), (61, .new 25, 64, 206, 0, 0, 0, 207), (64, .dup, 65, 0, 0, 0, 0, 0), (65, .aload_n 0, 66, 0, 0, 0, 0, 0), (66, .getfield 10, 69, 298, 0, 0, 5, 0), (69, .invokespecial 27, 72, 208, 0, 0, 0, 1), (72, .putfield 35, 75, 302, 0, 0, 5, 4), (75, .aload_n 0, 76, 0, 0, 0, 0, 0), (76, .iconst 0, 77, 0, 0, 0, 0, 0), (77, .putfield 38, 80, 303, 0, 0, 5, 5), (80, .aload_n 0, 81, 0, 0, 0, 0, 0), (81, .new 42, 84, 258, 0, 0, 1, 259), (84, .dup, 85, 0, 0, 0, 0, 0), (85, .invokespecial 44, 88, 260, 0, 0, 0, 1), (88, .putfield 45, 91, 304, 0, 0, 5, 6), (91, .aload_n 0, 92, 0, 0, 0, 0, 0), (92, .new 49, 95, 282, 0, 0, 3, 283), (95, .dup, 96, 0, 0, 0, 0, 0), (96, .invokespecial 51, 99, 284, 0, 0, 0, 1), (99, .putfield 52, 102, 305, 0, 0, 5, 7), (102, .return_, 103, 0, 0, 0, 0, 0)]
def tX6_set : List E8 := [(0, .iload_n 1, 1, 0, 0, 0, 0, 1), (1, .ifCond .lt 17, 4, 18, 0, 0, 0, 0), (4, .iload_n 1, 5, 0, 0, 0, 0, 1), (5, .iconst 3, 6, 0, 3, 0, 0, 0), (6, .if_icmp .gt 12, 9, 18, 0, 0, 0, 0), (9, .aload_n 0, 10, 0, 0, 0, 0, 0), (10, .iload_n 2, 11, 0, 0, 0, 0, 2), (11, .iload_n 1, 12, 0, 0, 0, 0, 1), (12, .invokevirtual 56, 15, 327, 0, 0, 0, 0), (15, .goto 5, 18, 20, 0, 0, 0, 0), (18, .bipush (-2), 20, 0, (-2), 0, 0, 0), (20, .istore 4, 22, 0, 0, 0, 0, 4), (22, .iload 4, 24, 0, 0, 0, 0, 4), (24, .bipush (-2), 26, 0, (-2), 0, 0, 0), (26, .if_icmp .eq 15, 29, 41, 0, 0, 0, 0), (29, .iload_n 3, 30, 0, 0, 0, 0, 3), (30, .ifCond .lt 11, 33, 41, 0, 0, 0, 0), (33, .iload_n 3, 34, 0, 0, 0, 0, 3), (34, .iload_n 1, 35, 0, 0, 0, 0, 1), (35, .invokestatic 60, 38, 432, 0, 0, 0, 0), (38, .if_icmp .le 6, 41, 44, 0, 0, 0, 0), (41, .bipush (-2), 43, 0, (-2), 0, 0, 0), (43, .ireturn, 44, 0, 0, 0, 0, 0), (44, .iload_n 1, 45, 0, 0, 0, 0, 1), (45, .tableswitch 61 0 2 #[27, 38, 49], 72, 0, 0, 0, 0, 0), (72, .aload_n 0, 73, 0, 0, 0, 0, 0), (73, .getfield 28, 76, 300, 0, 0, 5, 2), (76, .iload_n 3, 77, 0, 0, 0, 0, 3), (77, .putfield 64, 80, 216, 0, 0, 0, 2), (80, .goto 35, 83, 115, 0, 0, 0, 0), (83, .aload_n 0, 84, 0, 0, 0, 0, 0), (84, .getfield 28, 87, 300, 0, 0, 5, 2), (87, .iload_n 3, 88, 0, 0, 0, 0, 3), (88, .putfield 68, 91, 218, 0, 0, 0, 3), (91, .goto 24, 94, 115, 0, 0, 0, 0), (94, .aload_n 0, 95, 0, 0, 0, 0, 0), (95, .getfield 28, 98, 300, 0, 0, 5, 2), (98, .iload_n 2, 99, 0, 0, 0, 0, 2), (99, .iload_n 3, 100, 0, 0, 0, 0, 3), (100, .invokevirtual 71, 103, 435, 0, 0, 0, 1), (103, .goto 12, 106, 115, 0, 0, 0, 0), (106, .aload_n 0, 107, 0, 0, 0, 0, 0), (107, .getfield 28, 110, 300, 0, 0, 5, 2), (110, .iload_n 2, 111, 0, 0, 0, 0, 2), (111, .iload_n 3, 112, 0, 0, 0, 0, 3), (112, .invokevirtual 75, 115, 439, 0, 0, 0, 1), (115, .iload 4, 117, 0, 0, 0, 0, 4), (117, .ireturn, 118, 0, 0, 0, 0, 0)]
def tX6_highest : List E8 := [(0, .iload_n 0, 1, 0, 0, 0, 0, 0), (1, .tableswitch 38 0 2 #[27, 31, 35], 28, 0, 0, 0, 0, 0), (28, .sipush 999, 31, 0, 999, 0, 0, 0), (31, .ireturn, 32, 0, 0, 0, 0, 0), (32, .sipush 600, 35, 0, 600, 0, 0, 0), (35, .ireturn, 36, 0, 0, 0, 0, 0), (36, .bipush 9, 38, 0, 9, 0, 0, 0), (38, .ireturn, 39, 0, 0, 0, 0, 0), (39, .bipush 99, 41, 0, 99, 0, 0, 0), (41, .ireturn, 42, 0, 0, 0, 0, 0)]
def tX6_citizen : List E8 := [(0, .iload_n 1, 1, 0, 0, 0, 0, 1), (1, .invokestatic 78, 4, 447, 0, 0, 0, 1), (4, .ifCond .eq 13, 7, 17, 0, 0, 0, 0), (7, .iload_n 2, 8, 0, 0, 0, 0, 2), (8, .ifCond .lt 9, 11, 17, 0, 0, 0, 0), (11, .iload_n 2, 12, 0, 0, 0, 0, 2), (12, .bipush 9, 14, 0, 9, 0, 0, 0), (14, .if_icmp .le 6, 17, 20, 0, 0, 0, 0), (17, .bipush (-2), 19, 0, (-2), 0, 0, 0), (19, .ireturn, 20, 0, 0, 0, 0, 0), (20, .aload_n 0, 21, 0, 0, 0, 0, 0), (21, .getfield 28, 24, 300, 0, 0, 5, 2), (24, .iload_n 1, 25, 0, 0, 0, 0, 1), (25, .iload_n 2, 26, 0, 0, 0, 0, 2), (26, .invokevirtual 84, 29, 450, 0, 0, 0, 1), (29, .ireturn, 30, 0, 0, 0, 0, 0)]
def tX6_business : List E8 := [(0, .iload_n 1, 1, 0, 0, 0, 0, 1), (1, .iconst 1, 2, 0, 1, 0, 0, 0), (2, .if_icmp .lt 10, 5, 12, 0, 0, 0, 0), (5, .iload_n 1, 6, 0, 0, 0, 0, 1), (6, .sipush 999, 9, 0, 999, 0, 0, 0), (9, .if_icmp .le 6, 12, 15, 0, 0, 0, 0), (12, .bipush (-2), 14, 0, (-2), 0, 0, 0), (14, .ireturn, 15, 0, 0, 0, 0, 0), (15, .aload_n 0, 16, 0, 0, 0, 0, 0), (16, .getfield 28, 19, 300, 0, 0, 5, 2), (19, .iload_n 1, 20, 0, 0, 0, 0, 1), (20, .invokevirtual 87, 23, 458, 0, 0, 0, 1), (23, .ireturn, 24, 0, 0, 0, 0, 0)]
def tX6_told : List E8 := [(0, .iload_n 2, 1, 0, 0, 0, 0, 2), (1, .ifCond .ne 11, 4, 12, 0, 0, 0, 0), (4, .aload_n 0, 5, 0, 0, 0, 0, 0), (5, .getfield 28, 8, 300, 0, 0, 5, 2), (8, .getfield 64, 11, 216, 0, 0, 0, 2), (11, .ireturn, 12, 0, 0, 0, 0, 0), (12, .iload_n 2, 13, 0, 0, 0, 0, 2), (13, .iconst 1, 14, 0, 1, 0, 0, 0), (14, .if_icmp .ne 11, 17, 25, 0, 0, 0, 0), (17, .aload_n 0, 18, 0, 0, 0, 0, 0), (18, .getfield 28, 21, 300, 0, 0, 5, 2), (21, .getfield 68, 24, 218, 0, 0, 0, 3), (24, .ireturn, 25, 0, 0, 0, 0, 0), (25, .iload_n 2, 26, 0, 0, 0, 0, 2), (26, .iconst 2, 27, 0, 2, 0, 0, 0), (27, .if_icmp .lt 32, 30, 59, 0, 0, 0, 0), (30, .iload_n 2, 31, 0, 0, 0, 0, 2), (31, .bipush 7, 33, 0, 7, 0, 0, 0), (33, .if_icmp .gt 26, 36, 59, 0, 0, 0, 0), (36, .aload_n 0, 37, 0, 0, 0, 0, 0), (37, .getfield 28, 40, 300, 0, 0, 5, 2), (40, .iload_n 1, 41, 0, 0, 0, 0, 1), (41, .invokevirtual 90, 44, 331, 0, 0, 0, 1), (44, .ifCond .eq 12, 47, 56, 0, 0, 0, 0), (47, .aload_n 0, 48, 0, 0, 0, 0, 0), (48, .iload_n 1, 49, 0, 0, 0, 0, 1), (49, .iload_n 2, 50, 0, 0, 0, 0, 2), (50, .invokevirtual 93, 53, 335, 0, 0, 0, 0), (53, .goto 5, 56, 58, 0, 0, 0, 0), (56, .bipush (-2), 58, 0, (-2), 0, 0, 0), (58, .ireturn, 59, 0, 0, 0, 0, 0), (59, .iload_n 2, 60, 0, 0, 0, 0, 2), (60, .bipush 8, 62, 0, 8, 0, 0, 0), (62, .if_icmp .lt 32, 65, 94, 0, 0, 0, 0), (65, .iload_n 2, 66, 0, 0, 0, 0, 2), (66, .bipush 10, 68, 0, 10, 0, 0, 0), (68, .if_icmp .gt 26, 71, 94, 0, 0, 0, 0), (71, .aload_n 0, 72, 0, 0, 0, 0, 0), (72, .getfield 28, 75, 300, 0, 0, 5, 2), (75, .iload_n 1, 76, 0, 0, 0, 0, 1), (76, .invokevirtual 96, 79, 411, 0, 0, 0, 1), (79, .ifCond .eq 12, 82, 91, 0, 0, 0, 0), (82, .aload_n 0, 83, 0, 0, 0, 0, 0), (83, .iload_n 1, 84, 0, 0, 0, 0, 1), (84, .iload_n 2, 85, 0, 0, 0, 0, 2), (85, .invokevirtual 99, 88, 415, 0, 0, 0, 0), (88, .goto 5, 91, 93, 0, 0, 0, 0), (91, .bipush (-2), 93, 0, (-2), 0, 0, 0), (93, .ireturn, 94, 0, 0, 0, 0, 0), (94, .bipush (-2), 96, 0, (-2), 0, 0, 0), (96, .ireturn, 97, 0, 0, 0, 0, 0)]
def tX6_toldOfCitizen : List E8 := [(0, .iload_n 2, 1, 0, 0, 0, 0, 2), (1, .tableswitch 102 2 6 #[35, 44, 53, 62, 86], 36, 0, 0, 0, 0, 0), (36, .aload_n 0, 37, 0, 0, 0, 0, 0), (37, .getfield 28, 40, 300, 0, 0, 5, 2), (40, .iload_n 1, 41, 0, 0, 0, 0, 1), (41, .invokevirtual 102, 44, 339, 0, 0, 0, 1), (44, .ireturn, 45, 0, 0, 0, 0, 0), (45, .aload_n 0, 46, 0, 0, 0, 0, 0), (46, .getfield 28, 49, 300, 0, 0, 5, 2), (49, .iload_n 1, 50, 0, 0, 0, 0, 1), (50, .invokevirtual 105, 53, 344, 0, 0, 0, 1), (53, .ireturn, 54, 0, 0, 0, 0, 0), (54, .aload_n 0, 55, 0, 0, 0, 0, 0), (55, .getfield 28, 58, 300, 0, 0, 5, 2), (58, .iload_n 1, 59, 0, 0, 0, 0, 1), (59, .invokevirtual 108, 62, 348, 0, 0, 0, 1), (62, .ireturn, 63, 0, 0, 0, 0, 0), (63, .aload_n 0, 64, 0, 0, 0, 0, 0), (64, .getfield 28, 67, 300, 0, 0, 5, 2), (67, .iload_n 1, 68, 0, 0, 0, 0, 1), (68, .aload_n 0, 69, 0, 0, 0, 0, 0), (69, .getfield 28, 72, 300, 0, 0, 5, 2), (72, .invokevirtual 111, 75, 352, 0, 0, 0, 1), (75, .invokevirtual 115, 78, 396, 0, 0, 0, 1), (78, .ifCond .eq 7, 81, 85, 0, 0, 0, 0), (81, .iconst 1, 82, 0, 1, 0, 0, 0), (82, .goto 4, 85, 86, 0, 0, 0, 0), (85, .iconst 0, 86, 0, 0, 0, 0, 0), (86, .ireturn, 87, 0, 0, 0, 0, 0), (87, .aload_n 0, 88, 0, 0, 0, 0, 0), (88, .getfield 28, 91, 300, 0, 0, 5, 2), (91, .iload_n 1, 92, 0, 0, 0, 0, 1), (92, .aload_n 0, 93, 0, 0, 0, 0, 0), (93, .getfield 28, 96, 300, 0, 0, 5, 2), (96, .invokevirtual 111, 99, 352, 0, 0, 0, 1), (99, .invokevirtual 119, 102, 397, 0, 0, 0, 1), (102, .ireturn, 103, 0, 0, 0, 0, 0), (103, .aload_n 0, 104, 0, 0, 0, 0, 0), (104, .getfield 28, 107, 300, 0, 0, 5, 2), (107, .iload_n 1, 108, 0, 0, 0, 0, 1), (108, .aload_n 0, 109, 0, 0, 0, 0, 0), (109, .getfield 28, 112, 300, 0, 0, 5, 2), (112, .invokevirtual 111, 115, 352, 0, 0, 0, 1), (115, .invokevirtual 122, 118, 404, 0, 0, 0, 1), (118, .ireturn, 119, 0, 0, 0, 0, 0)]
def tX6_toldOfItem : List E8 := [(0, .iload_n 2, 1, 0, 0, 0, 0, 2), (1, .lookupswitch 45 #[(8, 27), (9, 36)], 28, 0, 0, 0, 0, 0), (28, .aload_n 0, 29, 0, 0, 0, 0, 0), (29, .getfield 28, 32, 300, 0, 0, 5, 2), (32, .iload_n 1, 33, 0, 0, 0, 0, 1), (33, .invokevirtual 125, 36, 419, 0, 0, 0, 1), (36, .ireturn, 37, 0, 0, 0, 0, 0), (37, .aload_n 0, 38, 0, 0, 0, 0, 0), (38, .getfield 28, 41, 300, 0, 0, 5, 2), (41, .iload_n 1, 42, 0, 0, 0, 0, 1), (42, .invokevirtual 128, 45, 424, 0, 0, 0, 1), (45, .ireturn, 46, 0, 0, 0, 0, 0), (46, .aload_n 0, 47, 0, 0, 0, 0, 0), (47, .getfield 28, 50, 300, 0, 0, 5, 2), (50, .iload_n 1, 51, 0, 0, 0, 0, 1), (51, .invokevirtual 131, 54, 428, 0, 0, 0, 1), (54, .ireturn, 55, 0, 0, 0, 0, 0)]
def tX6_feed : List E8 := [(0, .iload_n 1, 1, 0, 0, 0, 0, 1), (1, .ifCond .lt 10, 4, 11, 0, 0, 0, 0), (4, .iload_n 1, 5, 0, 0, 0, 0, 1), (5, .sipush 255, 8, 0, 255, 0, 0, 0), (8, .if_icmp .le 6, 11, 14, 0, 0, 0, 0), (11, .bipush (-2), 13, 0, (-2), 0, 0, 0), (13, .ireturn, 14, 0, 0, 0, 0, 0), (14, .aload_n 0, 15, 0, 0, 0, 0, 0), (15, .getfield 21, 18, 299, 0, 0, 5, 1), (18, .iload_n 1, 19, 0, 0, 0, 0, 1), (19, .invokevirtual 134, 22, 467, 0, 0, 0, 1), (22, .ireturn, 23, 0, 0, 0, 0, 0)]
def tX6_text : List E8 := [(0, .aload_n 0, 1, 0, 0, 0, 0, 0), (1, .getfield 10, 4, 298, 0, 0, 5, 0), (4, .invokevirtual 137, 7, 475, 0, 0, 0, 1), (7, .ifCond .eq 8, 10, 15, 0, 0, 0, 0), (10, .bipush (-4), 12, 0, (-4), 0, 0, 0), (12, .goto 10, 15, 22, 0, 0, 0, 0), (15, .aload_n 0, 16, 0, 0, 0, 0, 0), (16, .getfield 21, 19, 299, 0, 0, 5, 1), (19, .invokevirtual 141, 22, 479, 0, 0, 0, 1), (22, .ireturn, 23, 0, 0, 0, 0, 0)]
def tX6_force : List E8 := [(0, .aload_n 0, 1, 0, 0, 0, 0, 0), (1, .getfield 10, 4, 298, 0, 0, 5, 0), (4, .iload_n 1, 5, 0, 0, 0, 0, 1), (5, .invokevirtual 144, 8, 616, 0, 0, 0, 1), (8, .ifCond .ne 6, 11, 14, 0, 0, 0, 0), (11, .bipush (-2), 13, 0, (-2), 0, 0, 0), (13, .ireturn, 14, 0, 0, 0, 0, 0), (14, .aload_n 0, 15, 0, 0, 0, 0, 0), (15, .getfield 28, 18, 300, 0, 0, 5, 2), (18, .getfield 147, 21, 220, 0, 0, 0, 4), (21, .istore_n 2, 22, 0, 0, 0, 0, 2), (22, .aload_n 0, 23, 0, 0, 0, 0, 0), (23, .getfield 28, 26, 300, 0, 0, 5, 2), (26, .iload_n 1, 27, 0, 0, 0, 0, 1), (27, .putfield 147, 30, 220, 0, 0, 0, 4), (30, .iload_n 2, 31, 0, 0, 0, 0, 2), (31, .ireturn, 32, 0, 0, 0, 0, 0)]
def tX6_list : List E8 := [(0, .aload_n 0, 1, 0, 0, 0, 0, 0), (1, .getfield 28, 4, 300, 0, 0, 5, 2), (4, .invokevirtual 111, 7, 352, 0, 0, 0, 1), (7, .istore_n 2, 8, 0, 0, 0, 0, 2), (8, .iload_n 1, 9, 0, 0, 0, 0, 1), (9, .tableswitch 72 0 4 #[35, 37, 42, 54, 64], 44, 0, 0, 0, 0, 0), (44, .iload_n 2, 45, 0, 0, 0, 0, 2), (45, .ireturn, 46, 0, 0, 0, 0, 0), (46, .iload_n 2, 47, 0, 0, 0, 0, 2), (47, .invokestatic 150, 50, 621, 0, 0, 0, 0), (50, .ireturn, 51, 0, 0, 0, 0, 0), (51, .aload_n 0, 52, 0, 0, 0, 0, 0), (52, .getfield 28, 55, 300, 0, 0, 5, 2), (55, .iload_n 2, 56, 0, 0, 0, 0, 2), (56, .iconst (-1), 57, 0, (-1), 0, 0, 0), (57, .ixor, 58, 0, 0, 0, 0, 0), (58, .iload_n 2, 59, 0, 0, 0, 0, 2), (59, .invokevirtual 155, 62, 622, 0, 0, 0, 1), (62, .ireturn, 63, 0, 0, 0, 0, 0), (63, .aload_n 0, 64, 0, 0, 0, 0, 0), (64, .getfield 28, 67, 300, 0, 0, 5, 2), (67, .iload_n 2, 68, 0, 0, 0, 0, 2), (68, .iload_n 2, 69, 0, 0, 0, 0, 2), (69, .invokevirtual 155, 72, 622, 0, 0, 0, 1), (72, .ireturn, 73, 0, 0, 0, 0, 0), (73, .aload_n 0, 74, 0, 0, 0, 0, 0), (74, .getfield 28, 77, 300, 0, 0, 5, 2), (77, .invokevirtual 158, 80, 628, 0, 0, 0, 1), (80, .ireturn, 81, 0, 0, 0, 0, 0), (81, .bipush (-2), 83, 0, (-2), 0, 0, 0), (83, .ireturn, 84, 0, 0, 0, 0, 0)]
def tX6_by : List E8 := [(0, .iload_n 1, 1, 0, 0, 0, 0, 1), (1, .aload_n 0, 2, 0, 0, 0, 0, 0), (2, .getfield 28, 5, 300, 0, 0, 5, 2), (5, .invokevirtual 161, 8, 643, 0, 0, 0, 1), (8, .iconst (-1), 9, 0, (-1), 0, 0, 0), (9, .ixor, 10, 0, 0, 0, 0, 0), (10, .iand, 11, 0, 0, 0, 0, 0), (11, .ifCond .ne 14, 14, 25, 0, 0, 0, 0), (14, .aload_n 0, 15, 0, 0, 0, 0, 0), (15, .getfield 28, 18, 300, 0, 0, 5, 2), (18, .iload_n 1, 19, 0, 0, 0, 0, 1), (19, .invokevirtual 164, 22, 644, 0, 0, 0, 1), (22, .goto 5, 25, 27, 0, 0, 0, 0), (25, .bipush (-2), 27, 0, (-2), 0, 0, 0), (27, .ireturn, 28, 0, 0, 0, 0, 0)]
def tX6_sit : List E8 := [(0, .aload_n 0, 1, 0, 0, 0, 0, 0), (1, .getfield 28, 4, 300, 0, 0, 5, 2), (4, .getfield 64, 7, 216, 0, 0, 0, 2), (7, .sipush 999, 10, 0, 999, 0, 0, 0), (10, .if_icmp .lt 6, 13, 16, 0, 0, 0, 0), (13, .bipush (-3), 15, 0, (-3), 0, 0, 0), (15, .ireturn, 16, 0, 0, 0, 0, 0), (16, .aload_n 0, 17, 0, 0, 0, 0, 0), (17, .getfield 28, 20, 300, 0, 0, 5, 2), (20, .invokevirtual 167, 23, 652, 0, 0, 0, 1), (23, .istore_n 1, 24, 0, 0, 0, 0, 1), (24, .aload_n 0, 25, 0, 0, 0, 0, 0), (25, .getfield 28, 28, 300, 0, 0, 5, 2), (28, .invokevirtual 170, 31, 657, 0, 0, 0, 1), (31, .pop, 32, 0, 0, 0, 0, 0), (32, .aload_n 0, 33, 0, 0, 0, 0, 0), (33, .getfield 28, 36, 300, 0, 0, 5, 2), (36, .invokevirtual 167, 39, 652, 0, 0, 0, 1), (39, .iload_n 1, 40, 0, 0, 0, 0, 1), (40, .isub, 41, 0, 0, 0, 0, 0), (41, .ireturn, 42, 0, 0, 0, 0, 0)]
def tX6_run : List E8 := [(0, .aload_n 0, 1, 0, 0, 0, 0, 0), (1, .getfield 28, 4, 300, 0, 0, 5, 2), (4, .iload_n 2, 5, 0, 0, 0, 0, 2), (5, .bipush 10, 7, 0, 10, 0, 0, 0), (7, .isub, 8, 0, 0, 0, 0, 0), (8, .invokevirtual 96, 11, 411, 0, 0, 0, 1), (11, .istore_n 3, 12, 0, 0, 0, 0, 3), (12, .iload_n 1, 13, 0, 0, 0, 0, 1), (13, .ifCond .lt 22, 16, 35, 0, 0, 0, 0), (16, .iload_n 1, 17, 0, 0, 0, 0, 1), (17, .bipush 40, 19, 0, 40, 0, 0, 0), (19, .if_icmp .gt 16, 22, 35, 0, 0, 0, 0), (22, .iload_n 2, 23, 0, 0, 0, 0, 2), (23, .ifCond .eq 15, 26, 38, 0, 0, 0, 0), (26, .iload_n 2, 27, 0, 0, 0, 0, 2), (27, .iconst 1, 28, 0, 1, 0, 0, 0), (28, .if_icmp .eq 10, 31, 38, 0, 0, 0, 0), (31, .iload_n 3, 32, 0, 0, 0, 0, 3), (32, .ifCond .ne 6, 35, 38, 0, 0, 0, 0), (35, .bipush (-2), 37, 0, (-2), 0, 0, 0), (37, .ireturn, 38, 0, 0, 0, 0, 0), (38, .aload_n 0, 39, 0, 0, 0, 0, 0), (39, .getfield 32, 42, 301, 0, 0, 5, 3), (42, .aload_n 0, 43, 0, 0, 0, 0, 0), (43, .getfield 28, 46, 300, 0, 0, 5, 2), (46, .invokevirtual 173, 49, 671, 0, 0, 0, 1), (49, .iconst 0, 50, 0, 0, 0, 0, 0), (50, .istore 4, 52, 0, 0, 0, 0, 4), (52, .iconst 0, 53, 0, 0, 0, 0, 0), (53, .istore 5, 55, 0, 0, 0, 0, 5), (55, .iload 5, 57, 0, 0, 0, 0, 5), (57, .iload_n 1, 58, 0, 0, 0, 0, 1), (58, .if_icmp .ge 21, 61, 79, 0, 0, 0, 0), (61, .iload 4, 63, 0, 0, 0, 0, 4), (63, .aload_n 0, 64, 0, 0, 0, 0, 0), (64, .getfield 32, 67, 301, 0, 0, 5, 3), (67, .invokevirtual 170, 70, 657, 0, 0, 0, 1), (70, .iadd, 71, 0, 0, 0, 0, 0), (71, .istore 4, 73, 0, 0, 0, 0, 4), (73, .iinc 5 1, 76, 0, 1, 0, 0, 0), (76, .goto (-21), 79, 55, 0, 0, 0, 0), (79, .iload_n 3, 80, 0, 0, 0, 0, 3), (80, .ifCond .eq 15, 83, 95, 0, 0, 0, 0), (83, .aload_n 0, 84, 0, 0, 0, 0, 0), (84, .getfield 32, 87, 301, 0, 0, 5, 3), (87, .iload_n 2, 88, 0, 0, 0, 0, 2), (88, .bipush 10, 90, 0, 10, 0, 0, 0), (90, .isub, 91, 0, 0, 0, 0, 0), (91, .invokevirtual 131, 94, 428, 0, 0, 0, 1), (94, .ireturn, 95, 0, 0, 0, 0, 0), (95, .iload_n 2, 96, 0, 0, 0, 0, 2), (96, .ifCond .ne 13, 99, 109, 0, 0, 0, 0), (99, .aload_n 0, 100, 0, 0, 0, 0, 0), (100, .getfield 32, 103, 301, 0, 0, 5, 3), (103, .invokevirtual 167, 106, 652, 0, 0, 0, 1), (106, .goto 5, 109, 111, 0, 0, 0, 0), (109, .iload 4, 111, 0, 0, 0, 0, 4), (111, .ireturn, 112, 0, 0, 0, 0, 0)]
def tX6_shortest : List E8 := [(0, .iload_n 1, 1, 0, 0, 0, 0, 1), (1, .ifCond .eq 11, 4, 12, 0, 0, 0, 0), (4, .iload_n 1, 5, 0, 0, 0, 0, 1), (5, .iconst 1, 6, 0, 1, 0, 0, 0), (6, .if_icmp .eq 6, 9, 12, 0, 0, 0, 0), (9, .bipush (-2), 11, 0, (-2), 0, 0, 0), (11, .ireturn, 12, 0, 0, 0, 0, 0), (12, .aload_n 0, 13, 0, 0, 0, 0, 0), (13, .getfield 28, 16, 300, 0, 0, 5, 2), (16, .invokevirtual 161, 19, 643, 0, 0, 0, 1), (19, .istore_n 2, 20, 0, 0, 0, 0, 2), (20, .iconst 0, 21, 0, 0, 0, 0, 0), (21, .istore_n 3, 22, 0, 0, 0, 0, 3), (22, .aload_n 0, 23, 0, 0, 0, 0, 0), (23, .getfield 28, 26, 300, 0, 0, 5, 2), (26, .iconst 0, 27, 0, 0, 0, 0, 0), (27, .invokevirtual 164, 30, 644, 0, 0, 0, 1), (30, .istore 4, 32, 0, 0, 0, 0, 4), (32, .iconst 1, 33, 0, 1, 0, 0, 0), (33, .istore 5, 35, 0, 0, 0, 0, 5), (35, .iload 5, 37, 0, 0, 0, 0, 5), (37, .iload_n 2, 38, 0, 0, 0, 0, 2), (38, .if_icmp .gt 34, 41, 72, 0, 0, 0, 0), (41, .aload_n 0, 42, 0, 0, 0, 0, 0), (42, .getfield 28, 45, 300, 0, 0, 5, 2), (45, .iload 5, 47, 0, 0, 0, 0, 5), (47, .invokevirtual 164, 50, 644, 0, 0, 0, 1), (50, .istore 6, 52, 0, 0, 0, 0, 6), (52, .iload 6, 54, 0, 0, 0, 0, 6), (54, .iload 4, 56, 0, 0, 0, 0, 4), (56, .if_icmp .ge 10, 59, 66, 0, 0, 0, 0), (59, .iload 5, 61, 0, 0, 0, 0, 5), (61, .istore_n 3, 62, 0, 0, 0, 0, 3), (62, .iload 6, 64, 0, 0, 0, 0, 6), (64, .istore 4, 66, 0, 0, 0, 0, 4), (66, .iinc 5 1, 69, 0, 1, 0, 0, 0), (69, .goto (-34), 72, 35, 0, 0, 0, 0), (72, .iload_n 1, 73, 0, 0, 0, 0, 1), (73, .ifCond .ne 7, 76, 80, 0, 0, 0, 0), (76, .iload_n 3, 77, 0, 0, 0, 0, 3), (77, .goto 5, 80, 82, 0, 0, 0, 0), (80, .iload 4, 82, 0, 0, 0, 0, 4), (82, .ireturn, 83, 0, 0, 0, 0, 0)]
def tX6_fewest : List E8 := [(0, .iload_n 1, 1, 0, 0, 0, 0, 1), (1, .ifCond .lt 10, 4, 11, 0, 0, 0, 0), (4, .iload_n 1, 5, 0, 0, 0, 0, 1), (5, .sipush 999, 8, 0, 999, 0, 0, 0), (8, .if_icmp .le 6, 11, 14, 0, 0, 0, 0), (11, .bipush (-2), 13, 0, (-2), 0, 0, 0), (13, .ireturn, 14, 0, 0, 0, 0, 0), (14, .aload_n 0, 15, 0, 0, 0, 0, 0), (15, .getfield 28, 18, 300, 0, 0, 5, 2), (18, .invokevirtual 161, 21, 643, 0, 0, 0, 1), (21, .istore_n 2, 22, 0, 0, 0, 0, 2), (22, .iconst (-1), 23, 0, (-1), 0, 0, 0), (23, .istore_n 3, 24, 0, 0, 0, 0, 3), (24, .iconst (-1), 25, 0, (-1), 0, 0, 0), (25, .istore 4, 27, 0, 0, 0, 0, 4), (27, .iconst 0, 28, 0, 0, 0, 0, 0), (28, .istore 5, 30, 0, 0, 0, 0, 5), (30, .iload 5, 32, 0, 0, 0, 0, 5), (32, .iload_n 2, 33, 0, 0, 0, 0, 2), (33, .if_icmp .gt 43, 36, 76, 0, 0, 0, 0), (36, .iload 5, 38, 0, 0, 0, 0, 5), (38, .invokestatic 150, 41, 621, 0, 0, 0, 0), (41, .istore 6, 43, 0, 0, 0, 0, 6), (43, .iload 6, 45, 0, 0, 0, 0, 6), (45, .iload 4, 47, 0, 0, 0, 0, 4), (47, .if_icmp .le 23, 50, 70, 0, 0, 0, 0), (50, .aload_n 0, 51, 0, 0, 0, 0, 0), (51, .getfield 28, 54, 300, 0, 0, 5, 2), (54, .iload 5, 56, 0, 0, 0, 0, 5), (56, .invokevirtual 164, 59, 644, 0, 0, 0, 1), (59, .iload_n 1, 60, 0, 0, 0, 0, 1), (60, .if_icmp .gt 10, 63, 70, 0, 0, 0, 0), (63, .iload 5, 65, 0, 0, 0, 0, 5), (65, .istore_n 3, 66, 0, 0, 0, 0, 3), (66, .iload 6, 68, 0, 0, 0, 0, 6), (68, .istore 4, 70, 0, 0, 0, 0, 4), (70, .iinc 5 1, 73, 0, 1, 0, 0, 0), (73, .goto (-43), 76, 30, 0, 0, 0, 0), (76, .iload_n 3, 77, 0, 0, 0, 0, 3), (77, .ireturn, 78, 0, 0, 0, 0, 0)]
def tX6_soonest : List E8 := [(0, .aload_n 0, 1, 0, 0, 0, 0, 0), (1, .getfield 28, 4, 300, 0, 0, 5, 2), (4, .iload_n 1, 5, 0, 0, 0, 0, 1), (5, .invokevirtual 96, 8, 411, 0, 0, 0, 1), (8, .ifCond .eq 12, 11, 20, 0, 0, 0, 0), (11, .iload_n 2, 12, 0, 0, 0, 0, 2), (12, .ifCond .eq 11, 15, 23, 0, 0, 0, 0), (15, .iload_n 2, 16, 0, 0, 0, 0, 2), (16, .iconst 1, 17, 0, 1, 0, 0, 0), (17, .if_icmp .eq 6, 20, 23, 0, 0, 0, 0), (20, .bipush (-2), 22, 0, (-2), 0, 0, 0), (22, .ireturn, 23, 0, 0, 0, 0, 0), (23, .aload_n 0, 24, 0, 0, 0, 0, 0), (24, .getfield 32, 27, 301, 0, 0, 5, 3), (27, .aload_n 0, 28, 0, 0, 0, 0, 0), (28, .getfield 28, 31, 300, 0, 0, 5, 2), (31, .invokevirtual 173, 34, 671, 0, 0, 0, 1), (34, .aload_n 0, 35, 0, 0, 0, 0, 0), (35, .getfield 32, 38, 301, 0, 0, 5, 3), (38, .bipush 40, 40, 0, 40, 0, 0, 0), (40, .iload_n 1, 41, 0, 0, 0, 0, 1), (41, .invokevirtual 177, 44, 690, 0, 0, 0, 1), (44, .istore_n 3, 45, 0, 0, 0, 0, 3), (45, .iconst (-1), 46, 0, (-1), 0, 0, 0), (46, .istore 4, 48, 0, 0, 0, 0, 4), (48, .iconst 0, 49, 0, 0, 0, 0, 0), (49, .istore 5, 51, 0, 0, 0, 0, 5), (51, .iload 5, 53, 0, 0, 0, 0, 5), (53, .aload_n 0, 54, 0, 0, 0, 0, 0), (54, .getfield 28, 57, 300, 0, 0, 5, 2), (57, .getfield 180, 60, 222, 0, 0, 0, 5), (60, .if_icmp .ge 67, 63, 127, 0, 0, 0, 0), (63, .aload_n 0, 64, 0, 0, 0, 0, 0), (64, .getfield 32, 67, 301, 0, 0, 5, 3), (67, .aload_n 0, 68, 0, 0, 0, 0, 0), (68, .getfield 28, 71, 300, 0, 0, 5, 2), (71, .invokevirtual 173, 74, 671, 0, 0, 0, 1), (74, .aload_n 0, 75, 0, 0, 0, 0, 0), (75, .getfield 32, 78, 301, 0, 0, 5, 3), (78, .iload 5, 80, 0, 0, 0, 0, 5), (80, .bipush 99, 82, 0, 99, 0, 0, 0), (82, .invokevirtual 75, 85, 439, 0, 0, 0, 1), (85, .aload_n 0, 86, 0, 0, 0, 0, 0), (86, .getfield 32, 89, 301, 0, 0, 5, 3), (89, .bipush 40, 91, 0, 40, 0, 0, 0), (91, .iload_n 1, 92, 0, 0, 0, 0, 1), (92, .invokevirtual 177, 95, 690, 0, 0, 0, 1), (95, .istore 6, 97, 0, 0, 0, 0, 6), (97, .iload 6, 99, 0, 0, 0, 0, 6), (99, .iconst (-1), 100, 0, (-1), 0, 0, 0), (100, .if_icmp .eq 21, 103, 121, 0, 0, 0, 0), (103, .iload_n 3, 104, 0, 0, 0, 0, 3), (104, .iconst (-1), 105, 0, (-1), 0, 0, 0), (105, .if_icmp .eq 9, 108, 114, 0, 0, 0, 0), (108, .iload 6, 110, 0, 0, 0, 0, 6), (110, .iload_n 3, 111, 0, 0, 0, 0, 3), (111, .if_icmp .ge 10, 114, 121, 0, 0, 0, 0), (114, .iload 6, 116, 0, 0, 0, 0, 6), (116, .istore_n 3, 117, 0, 0, 0, 0, 3), (117, .iload 5, 119, 0, 0, 0, 0, 5), (119, .istore 4, 121, 0, 0, 0, 0, 4), (121, .iinc 5 1, 124, 0, 1, 0, 0, 0), (124, .goto (-73), 127, 51, 0, 0, 0, 0), (127, .iload_n 2, 128, 0, 0, 0, 0, 2), (128, .ifCond .ne 8, 131, 136, 0, 0, 0, 0), (131, .iload 4, 133, 0, 0, 0, 0, 4), (133, .goto 4, 136, 137, 0, 0, 0, 0), (136, .iload_n 3, 137, 0, 0, 0, 0, 3), (137, .ireturn, 138, 0, 0, 0, 0, 0)]
def tX6_bribe : List E8 := [(0, .aload_n 0, 1, 0, 0, 0, 0, 0), (1, .getfield 28, 4, 300, 0, 0, 5, 2), (4, .iload_n 1, 5, 0, 0, 0, 0, 1), (5, .invokevirtual 90, 8, 331, 0, 0, 0, 1), (8, .ifCond .ne 6, 11, 14, 0, 0, 0, 0), (11, .bipush (-2), 13, 0, (-2), 0, 0, 0), (13, .ireturn, 14, 0, 0, 0, 0, 0), (14, .aload_n 0, 15, 0, 0, 0, 0, 0), (15, .getfield 28, 18, 300, 0, 0, 5, 2), (18, .invokevirtual 111, 21, 352, 0, 0, 0, 1), (21, .istore_n 2, 22, 0, 0, 0, 0, 2), (22, .aload_n 0, 23, 0, 0, 0, 0, 0), (23, .getfield 32, 26, 301, 0, 0, 5, 3), (26, .aload_n 0, 27, 0, 0, 0, 0, 0), (27, .getfield 28, 30, 300, 0, 0, 5, 2), (30, .invokevirtual 173, 33, 671, 0, 0, 0, 1), (33, .iconst 0, 34, 0, 0, 0, 0, 0), (34, .istore_n 3, 35, 0, 0, 0, 0, 3), (35, .iload_n 3, 36, 0, 0, 0, 0, 3), (36, .bipush 99, 38, 0, 99, 0, 0, 0), (38, .if_icmp .gt 32, 41, 70, 0, 0, 0, 0), (41, .aload_n 0, 42, 0, 0, 0, 0, 0), (42, .getfield 32, 45, 301, 0, 0, 5, 3), (45, .iload_n 1, 46, 0, 0, 0, 0, 1), (46, .iload_n 3, 47, 0, 0, 0, 0, 3), (47, .invokevirtual 75, 50, 439, 0, 0, 0, 1), (50, .aload_n 0, 51, 0, 0, 0, 0, 0), (51, .getfield 32, 54, 301, 0, 0, 5, 3), (54, .iload_n 1, 55, 0, 0, 0, 0, 1), (55, .iload_n 2, 56, 0, 0, 0, 0, 2), (56, .invokevirtual 115, 59, 396, 0, 0, 0, 1), (59, .ifCond .eq 5, 62, 64, 0, 0, 0, 0), (62, .iload_n 3, 63, 0, 0, 0, 0, 3), (63, .ireturn, 64, 0, 0, 0, 0, 0), (64, .iinc 3 1, 67, 0, 1, 0, 0, 0), (67, .goto (-32), 70, 35, 0, 0, 0, 0), (70, .iconst (-1), 71, 0, (-1), 0, 0, 0), (71, .ireturn, 72, 0, 0, 0, 0, 0)]
def tX6_order : List E8 := [(0, .iload_n 1, 1, 0, 0, 0, 0, 1), (1, .ifCond .eq 11, 4, 12, 0, 0, 0, 0), (4, .iload_n 1, 5, 0, 0, 0, 0, 1), (5, .iconst 1, 6, 0, 1, 0, 0, 0), (6, .if_icmp .eq 6, 9, 12, 0, 0, 0, 0), (9, .bipush (-2), 11, 0, (-2), 0, 0, 0), (11, .ireturn, 12, 0, 0, 0, 0, 0), (12, .aload_n 0, 13, 0, 0, 0, 0, 0), (13, .getfield 32, 16, 301, 0, 0, 5, 3), (16, .aload_n 0, 17, 0, 0, 0, 0, 0), (17, .getfield 28, 20, 300, 0, 0, 5, 2), (20, .invokevirtual 173, 23, 671, 0, 0, 0, 1), (23, .aload_n 0, 24, 0, 0, 0, 0, 0), (24, .getfield 45, 27, 304, 0, 0, 5, 6), (27, .aload_n 0, 28, 0, 0, 0, 0, 0), (28, .getfield 32, 31, 301, 0, 0, 5, 3), (31, .invokevirtual 183, 34, 703, 0, 0, 0, 1), (34, .iload_n 1, 35, 0, 0, 0, 0, 1), (35, .ifCond .ne 13, 38, 48, 0, 0, 0, 0), (38, .aload_n 0, 39, 0, 0, 0, 0, 0), (39, .getfield 45, 42, 304, 0, 0, 5, 6), (42, .getfield 186, 45, 268, 0, 0, 1, 3), (45, .goto 10, 48, 55, 0, 0, 0, 0), (48, .aload_n 0, 49, 0, 0, 0, 0, 0), (49, .getfield 45, 52, 304, 0, 0, 5, 6), (52, .getfield 189, 55, 270, 0, 0, 1, 4), (55, .ireturn, 56, 0, 0, 0, 0, 0)]
def tX6_turned : List E8 := [(0, .iload_n 1, 1, 0, 0, 0, 0, 1), (1, .ifCond .eq 11, 4, 12, 0, 0, 0, 0), (4, .iload_n 1, 5, 0, 0, 0, 0, 1), (5, .iconst 1, 6, 0, 1, 0, 0, 0), (6, .if_icmp .eq 6, 9, 12, 0, 0, 0, 0), (9, .bipush (-2), 11, 0, (-2), 0, 0, 0), (11, .ireturn, 12, 0, 0, 0, 0, 0), (12, .aload_n 0, 13, 0, 0, 0, 0, 0), (13, .getfield 28, 16, 300, 0, 0, 5, 2), (16, .invokevirtual 111, 19, 352, 0, 0, 0, 1), (19, .istore_n 2, 20, 0, 0, 0, 0, 2), (20, .iconst (-1), 21, 0, (-1), 0, 0, 0), (21, .istore_n 3, 22, 0, 0, 0, 0, 3), (22, .iconst (-1), 23, 0, (-1), 0, 0, 0), (23, .istore 4, 25, 0, 0, 0, 0, 4), (25, .iconst 0, 26, 0, 0, 0, 0, 0), (26, .istore 5, 28, 0, 0, 0, 0, 5), (28, .iload 5, 30, 0, 0, 0, 0, 5), (30, .aload_n 0, 31, 0, 0, 0, 0, 0), (31, .getfield 28, 34, 300, 0, 0, 5, 2), (34, .getfield 180, 37, 222, 0, 0, 0, 5), (37, .if_icmp .ge 43, 40, 80, 0, 0, 0, 0), (40, .aload_n 0, 41, 0, 0, 0, 0, 0), (41, .getfield 28, 44, 300, 0, 0, 5, 2), (44, .iload_n 2, 45, 0, 0, 0, 0, 2), (45, .iconst 1, 46, 0, 1, 0, 0, 0), (46, .iload 5, 48, 0, 0, 0, 0, 5), (48, .ishl, 49, 0, 0, 0, 0, 0), (49, .ixor, 50, 0, 0, 0, 0, 0), (50, .invokevirtual 164, 53, 644, 0, 0, 0, 1), (53, .istore 6, 55, 0, 0, 0, 0, 6), (55, .iload_n 3, 56, 0, 0, 0, 0, 3), (56, .iconst (-1), 57, 0, (-1), 0, 0, 0), (57, .if_icmp .eq 10, 60, 67, 0, 0, 0, 0), (60, .iload 6, 62, 0, 0, 0, 0, 6), (62, .iload 4, 64, 0, 0, 0, 0, 4), (64, .if_icmp .ge 10, 67, 74, 0, 0, 0, 0), (67, .iload 5, 69, 0, 0, 0, 0, 5), (69, .istore_n 3, 70, 0, 0, 0, 0, 3), (70, .iload 6, 72, 0, 0, 0, 0, 6), (72, .istore 4, 74, 0, 0, 0, 0, 4), (74, .iinc 5 1, 77, 0, 1, 0, 0, 0), (77, .goto (-49), 80, 28, 0, 0, 0, 0), (80, .iload_n 1, 81, 0, 0, 0, 0, 1), (81, .ifCond .ne 7, 84, 88, 0, 0, 0, 0), (84, .iload_n 3, 85, 0, 0, 0, 0, 3), (85, .goto 5, 88, 90, 0, 0, 0, 0), (88, .iload 4, 90, 0, 0, 0, 0, 4), (90, .ireturn, 91, 0, 0, 0, 0, 0)]
def tX6_tells : List E8 := [(0, .aload_n 0, 1, 0, 0, 0, 0, 0), (1, .getfield 52, 4, 305, 0, 0, 5, 7), (4, .iload_n 1, 5, 0, 0, 0, 0, 1), (5, .invokevirtual 192, 8, 727, 0, 0, 0, 1), (8, .ifCond .eq 11, 11, 19, 0, 0, 0, 0), (11, .aload_n 0, 12, 0, 0, 0, 0, 0), (12, .iload_n 2, 13, 0, 0, 0, 0, 2), (13, .invokevirtual 195, 16, 731, 0, 0, 0, 0), (16, .ifCond .ne 6, 19, 22, 0, 0, 0, 0), (19, .bipush (-2), 21, 0, (-2), 0, 0, 0), (21, .ireturn, 22, 0, 0, 0, 0, 0), (22, .aload_n 0, 23, 0, 0, 0, 0, 0), (23, .getfield 52, 26, 305, 0, 0, 5, 7), (26, .iload_n 1, 27, 0, 0, 0, 0, 1), (27, .invokevirtual 198, 30, 735, 0, 0, 0, 1), (30, .ifCond .eq 6, 33, 36, 0, 0, 0, 0), (33, .bipush (-11), 35, 0, (-11), 0, 0, 0), (35, .ireturn, 36, 0, 0, 0, 0, 0), (36, .aload_n 0, 37, 0, 0, 0, 0, 0), (37, .getfield 52, 40, 305, 0, 0, 5, 7), (40, .iload_n 1, 41, 0, 0, 0, 0, 1), (41, .invokevirtual 201, 44, 744, 0, 0, 0, 1), (44, .iconst 1, 45, 0, 1, 0, 0, 0), (45, .if_icmp .eq 6, 48, 51, 0, 0, 0, 0), (48, .bipush (-2), 50, 0, (-2), 0, 0, 0), (50, .ireturn, 51, 0, 0, 0, 0, 0), (51, .aload_n 0, 52, 0, 0, 0, 0, 0), (52, .getfield 52, 55, 305, 0, 0, 5, 7), (55, .iload_n 1, 56, 0, 0, 0, 0, 1), (56, .iconst 0, 57, 0, 0, 0, 0, 0), (57, .invokevirtual 204, 60, 748, 0, 0, 0, 1), (60, .istore_n 3, 61, 0, 0, 0, 0, 3), (61, .iload_n 2, 62, 0, 0, 0, 0, 2), (62, .iconst 4, 63, 0, 4, 0, 0, 0), (63, .if_icmp .ge 10, 66, 73, 0, 0, 0, 0), (66, .aload_n 0, 67, 0, 0, 0, 0, 0), (67, .iload_n 3, 68, 0, 0, 0, 0, 3), (68, .iload_n 2, 69, 0, 0, 0, 0, 2), (69, .invokevirtual 207, 72, 757, 0, 0, 0, 0), (72, .ireturn, 73, 0, 0, 0, 0, 0), (73, .iload_n 2, 74, 0, 0, 0, 0, 2), (74, .iconst 4, 75, 0, 4, 0, 0, 0), (75, .if_icmp .ne 11, 78, 86, 0, 0, 0, 0), (78, .aload_n 0, 79, 0, 0, 0, 0, 0), (79, .iload_n 3, 80, 0, 0, 0, 0, 3), (80, .invokevirtual 210, 83, 761, 0, 0, 0, 0), (83, .goto 16, 86, 99, 0, 0, 0, 0), (86, .aload_n 0, 87, 0, 0, 0, 0, 0), (87, .iload_n 3, 88, 0, 0, 0, 0, 3), (88, .iload_n 2, 89, 0, 0, 0, 0, 2), (89, .bipush 10, 91, 0, 10, 0, 0, 0), (91, .idiv, 92, 0, 0, 0, 0, 0), (92, .iload_n 2, 93, 0, 0, 0, 0, 2), (93, .bipush 10, 95, 0, 10, 0, 0, 0), (95, .irem, 96, 0, 0, 0, 0, 0), (96, .invokevirtual 213, 99, 769, 0, 0, 0, 0), (99, .ireturn, 100, 0, 0, 0, 0, 0)]
def tX6_canBeAsked : List E8 := [(0, .iload_n 1, 1, 0, 0, 0, 0, 1), (1, .ifCond .lt 12, 4, 13, 0, 0, 0, 0), (4, .iload_n 1, 5, 0, 0, 0, 0, 1), (5, .iconst 4, 6, 0, 4, 0, 0, 0), (6, .if_icmp .gt 7, 9, 13, 0, 0, 0, 0), (9, .iconst 1, 10, 0, 1, 0, 0, 0), (10, .goto 4, 13, 14, 0, 0, 0, 0), (13, .iconst 0, 14, 0, 0, 0, 0, 0), (14, .istore_n 2, 15, 0, 0, 0, 0, 2), (15, .iload_n 1, 16, 0, 0, 0, 0, 1), (16, .bipush 10, 18, 0, 10, 0, 0, 0), (18, .if_icmp .lt 27, 21, 45, 0, 0, 0, 0), (21, .iload_n 1, 22, 0, 0, 0, 0, 1), (22, .bipush 49, 24, 0, 49, 0, 0, 0), (24, .if_icmp .gt 21, 27, 45, 0, 0, 0, 0), (27, .aload_n 0, 28, 0, 0, 0, 0, 0), (28, .getfield 28, 31, 300, 0, 0, 5, 2), (31, .iload_n 1, 32, 0, 0, 0, 0, 1), (32, .bipush 10, 34, 0, 10, 0, 0, 0), (34, .irem, 35, 0, 0, 0, 0, 0), (35, .invokevirtual 90, 38, 331, 0, 0, 0, 1), (38, .ifCond .eq 7, 41, 45, 0, 0, 0, 0), (41, .iconst 1, 42, 0, 1, 0, 0, 0), (42, .goto 4, 45, 46, 0, 0, 0, 0), (45, .iconst 0, 46, 0, 0, 0, 0, 0), (46, .istore_n 3, 47, 0, 0, 0, 0, 3), (47, .iload_n 2, 48, 0, 0, 0, 0, 2), (48, .ifCond .ne 7, 51, 55, 0, 0, 0, 0), (51, .iload_n 3, 52, 0, 0, 0, 0, 3), (52, .ifCond .eq 7, 55, 59, 0, 0, 0, 0), (55, .iconst 1, 56, 0, 1, 0, 0, 0), (56, .goto 4, 59, 60, 0, 0, 0, 0), (59, .iconst 0, 60, 0, 0, 0, 0, 0), (60, .ireturn, 61, 0, 0, 0, 0, 0)]
def tX6_ways : List E8 := [(0, .aload_n 0, 1, 0, 0, 0, 0, 0), (1, .getfield 28, 4, 300, 0, 0, 5, 2), (4, .invokevirtual 161, 7, 643, 0, 0, 0, 1), (7, .istore_n 3, 8, 0, 0, 0, 0, 3), (8, .iconst 0, 9, 0, 0, 0, 0, 0), (9, .istore 4, 11, 0, 0, 0, 0, 4), (11, .iconst (-1), 12, 0, (-1), 0, 0, 0), (12, .istore 5, 14, 0, 0, 0, 0, 5), (14, .iload_n 3, 15, 0, 0, 0, 0, 3), (15, .istore 6, 17, 0, 0, 0, 0, 6), (17, .iconst 0, 18, 0, 0, 0, 0, 0), (18, .istore 7, 20, 0, 0, 0, 0, 7), (20, .iconst 0, 21, 0, 0, 0, 0, 0), (21, .istore 8, 23, 0, 0, 0, 0, 8), (23, .iload 8, 25, 0, 0, 0, 0, 8), (25, .iload_n 3, 26, 0, 0, 0, 0, 3), (26, .if_icmp .gt 53, 29, 79, 0, 0, 0, 0), (29, .aload_n 0, 30, 0, 0, 0, 0, 0), (30, .getfield 28, 33, 300, 0, 0, 5, 2), (33, .iload 8, 35, 0, 0, 0, 0, 8), (35, .invokevirtual 164, 38, 644, 0, 0, 0, 1), (38, .iload_n 1, 39, 0, 0, 0, 0, 1), (39, .if_icmp .ne 34, 42, 73, 0, 0, 0, 0), (42, .iload 4, 44, 0, 0, 0, 0, 4), (44, .ifCond .ne 8, 47, 52, 0, 0, 0, 0), (47, .iload 8, 49, 0, 0, 0, 0, 8), (49, .goto 5, 52, 54, 0, 0, 0, 0), (52, .iload 5, 54, 0, 0, 0, 0, 5), (54, .istore 5, 56, 0, 0, 0, 0, 5), (56, .iinc 4 1, 59, 0, 1, 0, 0, 0), (59, .iload 6, 61, 0, 0, 0, 0, 6), (61, .iload 8, 63, 0, 0, 0, 0, 8), (63, .iand, 64, 0, 0, 0, 0, 0), (64, .istore 6, 66, 0, 0, 0, 0, 6), (66, .iload 7, 68, 0, 0, 0, 0, 7), (68, .iload 8, 70, 0, 0, 0, 0, 8), (70, .ior, 71, 0, 0, 0, 0, 0), (71, .istore 7, 73, 0, 0, 0, 0, 7), (73, .iinc 8 1, 76, 0, 1, 0, 0, 0), (76, .goto (-53), 79, 23, 0, 0, 0, 0), (79, .iload_n 2, 80, 0, 0, 0, 0, 2), (80, .tableswitch 46 0 2 #[28, 31, 34], 108, 0, 0, 0, 0, 0), (108, .iload 4, 110, 0, 0, 0, 0, 4), (110, .ireturn, 111, 0, 0, 0, 0, 0), (111, .iload 5, 113, 0, 0, 0, 0, 5), (113, .ireturn, 114, 0, 0, 0, 0, 0), (114, .iload 4, 116, 0, 0, 0, 0, 4), (116, .ifCond .ne 7, 119, 123, 0, 0, 0, 0), (119, .iconst 0, 120, 0, 0, 0, 0, 0), (120, .goto 5, 123, 125, 0, 0, 0, 0), (123, .iload 6, 125, 0, 0, 0, 0, 6), (125, .ireturn, 126, 0, 0, 0, 0, 0), (126, .iload 4, 128, 0, 0, 0, 0, 4), (128, .ifCond .ne 7, 131, 135, 0, 0, 0, 0), (131, .iconst 0, 132, 0, 0, 0, 0, 0), (132, .goto 9, 135, 141, 0, 0, 0, 0), (135, .iload_n 3, 136, 0, 0, 0, 0, 3), (136, .iload 7, 138, 0, 0, 0, 0, 7), (138, .iconst (-1), 139, 0, (-1), 0, 0, 0), (139, .ixor, 140, 0, 0, 0, 0, 0), (140, .iand, 141, 0, 0, 0, 0, 0), (141, .ireturn, 142, 0, 0, 0, 0, 0)]
def tX6_textsBy : List E8 := [(0, .aload_n 0, 1, 0, 0, 0, 0, 0), (1, .getfield 32, 4, 301, 0, 0, 5, 3), (4, .aload_n 0, 5, 0, 0, 0, 0, 0), (5, .getfield 28, 8, 300, 0, 0, 5, 2), (8, .invokevirtual 173, 11, 671, 0, 0, 0, 1), (11, .iconst 0, 12, 0, 0, 0, 0, 0), (12, .istore_n 2, 13, 0, 0, 0, 0, 2), (13, .iconst 0, 14, 0, 0, 0, 0, 0), (14, .istore_n 3, 15, 0, 0, 0, 0, 3), (15, .iload_n 3, 16, 0, 0, 0, 0, 3), (16, .aload_n 0, 17, 0, 0, 0, 0, 0), (17, .getfield 10, 20, 298, 0, 0, 5, 0), (20, .getfield 217, 23, 160, 0, 0, 4, 0), (23, .if_icmp .ge 34, 26, 57, 0, 0, 0, 0), (26, .aload_n 0, 27, 0, 0, 0, 0, 0), (27, .getfield 32, 30, 301, 0, 0, 5, 3), (30, .iload_n 3, 31, 0, 0, 0, 0, 3), (31, .putfield 147, 34, 220, 0, 0, 0, 4), (34, .aload_n 0, 35, 0, 0, 0, 0, 0), (35, .getfield 32, 38, 301, 0, 0, 5, 3), (38, .invokevirtual 220, 41, 765, 0, 0, 0, 1), (41, .iload_n 1, 42, 0, 0, 0, 0, 1), (42, .if_icmp .ne 9, 45, 51, 0, 0, 0, 0), (45, .iload_n 2, 46, 0, 0, 0, 0, 2), (46, .iconst 1, 47, 0, 1, 0, 0, 0), (47, .iload_n 3, 48, 0, 0, 0, 0, 3), (48, .ishl, 49, 0, 0, 0, 0, 0), (49, .ior, 50, 0, 0, 0, 0, 0), (50, .istore_n 2, 51, 0, 0, 0, 0, 2), (51, .iinc 3 1, 54, 0, 1, 0, 0, 0), (54, .goto (-39), 57, 15, 0, 0, 0, 0), (57, .iload_n 2, 58, 0, 0, 0, 0, 2), (58, .ireturn, 59, 0, 0, 0, 0, 0)]
def tX6_ofOneBy : List E8 := [(0, .aload_n 0, 1, 0, 0, 0, 0, 0), (1, .getfield 32, 4, 301, 0, 0, 5, 3), (4, .aload_n 0, 5, 0, 0, 0, 0, 0), (5, .getfield 28, 8, 300, 0, 0, 5, 2), (8, .invokevirtual 173, 11, 671, 0, 0, 0, 1), (11, .iload_n 2, 12, 0, 0, 0, 0, 2), (12, .tableswitch 50 1 3 #[28, 35, 42], 40, 0, 0, 0, 0, 0), (40, .aload_n 0, 41, 0, 0, 0, 0, 0), (41, .iload_n 1, 42, 0, 0, 0, 0, 1), (42, .iload_n 3, 43, 0, 0, 0, 0, 3), (43, .invokevirtual 223, 46, 773, 0, 0, 0, 0), (46, .ireturn, 47, 0, 0, 0, 0, 0), (47, .aload_n 0, 48, 0, 0, 0, 0, 0), (48, .iload_n 1, 49, 0, 0, 0, 0, 1), (49, .iload_n 3, 50, 0, 0, 0, 0, 3), (50, .invokevirtual 226, 53, 781, 0, 0, 0, 0), (53, .ireturn, 54, 0, 0, 0, 0, 0), (54, .aload_n 0, 55, 0, 0, 0, 0, 0), (55, .iload_n 1, 56, 0, 0, 0, 0, 1), (56, .iload_n 3, 57, 0, 0, 0, 0, 3), (57, .iconst 0, 58, 0, 0, 0, 0, 0), (58, .invokevirtual 229, 61, 785, 0, 0, 0, 0), (61, .ireturn, 62, 0, 0, 0, 0, 0), (62, .aload_n 0, 63, 0, 0, 0, 0, 0), (63, .iload_n 1, 64, 0, 0, 0, 0, 1), (64, .iload_n 3, 65, 0, 0, 0, 0, 3), (65, .iconst 1, 66, 0, 1, 0, 0, 0), (66, .invokevirtual 229, 69, 785, 0, 0, 0, 0), (69, .ireturn, 70, 0, 0, 0, 0, 0)]
def tX6_kindsBy : List E8 := [(0, .iconst 0, 1, 0, 0, 0, 0, 0), (1, .istore_n 3, 2, 0, 0, 0, 0, 3), (2, .iconst 0, 3, 0, 0, 0, 0, 0), (3, .istore 4, 5, 0, 0, 0, 0, 4), (5, .iload 4, 7, 0, 0, 0, 0, 4), (7, .iconst 5, 8, 0, 5, 0, 0, 0), (8, .if_icmp .gt 37, 11, 45, 0, 0, 0, 0), (11, .aload_n 0, 12, 0, 0, 0, 0, 0), (12, .getfield 32, 15, 301, 0, 0, 5, 3), (15, .iload_n 2, 16, 0, 0, 0, 0, 2), (16, .iload 4, 18, 0, 0, 0, 0, 4), (18, .invokevirtual 233, 21, 777, 0, 0, 0, 1), (21, .aload_n 0, 22, 0, 0, 0, 0, 0), (22, .getfield 32, 25, 301, 0, 0, 5, 3), (25, .invokevirtual 220, 28, 765, 0, 0, 0, 1), (28, .iload_n 1, 29, 0, 0, 0, 0, 1), (29, .if_icmp .ne 10, 32, 39, 0, 0, 0, 0), (32, .iload_n 3, 33, 0, 0, 0, 0, 3), (33, .iconst 1, 34, 0, 1, 0, 0, 0), (34, .iload 4, 36, 0, 0, 0, 0, 4), (36, .ishl, 37, 0, 0, 0, 0, 0), (37, .ior, 38, 0, 0, 0, 0, 0), (38, .istore_n 3, 39, 0, 0, 0, 0, 3), (39, .iinc 4 1, 42, 0, 1, 0, 0, 0), (42, .goto (-37), 45, 5, 0, 0, 0, 0), (45, .iload_n 3, 46, 0, 0, 0, 0, 3), (46, .ireturn, 47, 0, 0, 0, 0, 0)]
def tX6_numbersBy : List E8 := [(0, .iconst 0, 1, 0, 0, 0, 0, 0), (1, .istore_n 3, 2, 0, 0, 0, 0, 3), (2, .iconst 0, 3, 0, 0, 0, 0, 0), (3, .istore 4, 5, 0, 0, 0, 0, 4), (5, .iload 4, 7, 0, 0, 0, 0, 4), (7, .bipush 9, 9, 0, 9, 0, 0, 0), (9, .if_icmp .gt 37, 12, 46, 0, 0, 0, 0), (12, .aload_n 0, 13, 0, 0, 0, 0, 0), (13, .getfield 32, 16, 301, 0, 0, 5, 3), (16, .iload_n 2, 17, 0, 0, 0, 0, 2), (17, .iload 4, 19, 0, 0, 0, 0, 4), (19, .invokevirtual 71, 22, 435, 0, 0, 0, 1), (22, .aload_n 0, 23, 0, 0, 0, 0, 0), (23, .getfield 32, 26, 301, 0, 0, 5, 3), (26, .invokevirtual 220, 29, 765, 0, 0, 0, 1), (29, .iload_n 1, 30, 0, 0, 0, 0, 1), (30, .if_icmp .ne 10, 33, 40, 0, 0, 0, 0), (33, .iload_n 3, 34, 0, 0, 0, 0, 3), (34, .iconst 1, 35, 0, 1, 0, 0, 0), (35, .iload 4, 37, 0, 0, 0, 0, 4), (37, .ishl, 38, 0, 0, 0, 0, 0), (38, .ior, 39, 0, 0, 0, 0, 0), (39, .istore_n 3, 40, 0, 0, 0, 0, 3), (40, .iinc 4 1, 43, 0, 1, 0, 0, 0), (43, .goto (-38), 46, 5, 0, 0, 0, 0), (46, .iload_n 3, 47, 0, 0, 0, 0, 3), (47, .ireturn, 48, 0, 0, 0, 0, 0)]
def tX6_bribesBy : List E8 := [(0, .iconst 0, 1, 0, 0, 0, 0, 0), (1, .istore 4, 3, 0, 0, 0, 0, 4), (3, .iconst (-1), 4, 0, (-1), 0, 0, 0), (4, .istore 5, 6, 0, 0, 0, 0, 5), (6, .iconst 0, 7, 0, 0, 0, 0, 0), (7, .istore 6, 9, 0, 0, 0, 0, 6), (9, .iload 6, 11, 0, 0, 0, 0, 6), (11, .bipush 99, 13, 0, 99, 0, 0, 0), (13, .if_icmp .gt 47, 16, 60, 0, 0, 0, 0), (16, .aload_n 0, 17, 0, 0, 0, 0, 0), (17, .getfield 32, 20, 301, 0, 0, 5, 3), (20, .iload_n 2, 21, 0, 0, 0, 0, 2), (21, .iload 6, 23, 0, 0, 0, 0, 6), (23, .invokevirtual 75, 26, 439, 0, 0, 0, 1), (26, .aload_n 0, 27, 0, 0, 0, 0, 0), (27, .getfield 32, 30, 301, 0, 0, 5, 3), (30, .invokevirtual 220, 33, 765, 0, 0, 0, 1), (33, .iload_n 1, 34, 0, 0, 0, 0, 1), (34, .if_icmp .ne 20, 37, 54, 0, 0, 0, 0), (37, .iload 4, 39, 0, 0, 0, 0, 4), (39, .ifCond .ne 8, 42, 47, 0, 0, 0, 0), (42, .iload 6, 44, 0, 0, 0, 0, 6), (44, .goto 5, 47, 49, 0, 0, 0, 0), (47, .iload 5, 49, 0, 0, 0, 0, 5), (49, .istore 5, 51, 0, 0, 0, 0, 5), (51, .iinc 4 1, 54, 0, 1, 0, 0, 0), (54, .iinc 6 1, 57, 0, 1, 0, 0, 0), (57, .goto (-48), 60, 9, 0, 0, 0, 0), (60, .iload_n 3, 61, 0, 0, 0, 0, 3), (61, .ifCond .eq 8, 64, 69, 0, 0, 0, 0), (64, .iload 5, 66, 0, 0, 0, 0, 5), (66, .goto 5, 69, 71, 0, 0, 0, 0), (69, .iload 4, 71, 0, 0, 0, 0, 4), (71, .ireturn, 72, 0, 0, 0, 0, 0)]
def tX6_film : List E8 := [(0, .aload_n 0, 1, 0, 0, 0, 0, 0), (1, .getfield 52, 4, 305, 0, 0, 5, 7), (4, .iload_n 1, 5, 0, 0, 0, 0, 1), (5, .invokevirtual 192, 8, 727, 0, 0, 0, 1), (8, .ifCond .ne 6, 11, 14, 0, 0, 0, 0), (11, .bipush (-2), 13, 0, (-2), 0, 0, 0), (13, .ireturn, 14, 0, 0, 0, 0, 0), (14, .aload_n 0, 15, 0, 0, 0, 0, 0), (15, .getfield 28, 18, 300, 0, 0, 5, 2), (18, .invokevirtual 220, 21, 765, 0, 0, 0, 1), (21, .istore_n 2, 22, 0, 0, 0, 0, 2), (22, .aload_n 0, 23, 0, 0, 0, 0, 0), (23, .getfield 52, 26, 305, 0, 0, 5, 7), (26, .iload_n 1, 27, 0, 0, 0, 0, 1), (27, .iconst 2, 28, 0, 2, 0, 0, 0), (28, .iconst 1, 29, 0, 1, 0, 0, 0), (29, .invokevirtual 236, 32, 793, 0, 0, 0, 1), (32, .aload_n 0, 33, 0, 0, 0, 0, 0), (33, .getfield 52, 36, 305, 0, 0, 5, 7), (36, .iload_n 1, 37, 0, 0, 0, 0, 1), (37, .iconst 0, 38, 0, 0, 0, 0, 0), (38, .iload_n 2, 39, 0, 0, 0, 0, 2), (39, .invokevirtual 240, 42, 797, 0, 0, 0, 1), (42, .iload_n 2, 43, 0, 0, 0, 0, 2), (43, .ireturn, 44, 0, 0, 0, 0, 0)]
def tX6_drawn : List E8 := [(0, .aload_n 0, 1, 0, 0, 0, 0, 0), (1, .getfield 32, 4, 301, 0, 0, 5, 3), (4, .aload_n 0, 5, 0, 0, 0, 0, 0), (5, .getfield 28, 8, 300, 0, 0, 5, 2), (8, .invokevirtual 173, 11, 671, 0, 0, 0, 1), (11, .aload_n 0, 12, 0, 0, 0, 0, 0), (12, .getfield 32, 15, 301, 0, 0, 5, 3), (15, .iload_n 1, 16, 0, 0, 0, 0, 1), (16, .invokevirtual 243, 19, 805, 0, 0, 0, 1), (19, .aload_n 0, 20, 0, 0, 0, 0, 0), (20, .getfield 32, 23, 301, 0, 0, 5, 3), (23, .invokevirtual 111, 26, 352, 0, 0, 0, 1), (26, .invokestatic 150, 29, 621, 0, 0, 0, 0), (29, .ireturn, 30, 0, 0, 0, 0, 0)]
def tX6_chance : List E8 := [(0, .iload_n 2, 1, 0, 0, 0, 0, 2), (1, .iconst 1, 2, 0, 1, 0, 0, 0), (2, .if_icmp .lt 18, 5, 20, 0, 0, 0, 0), (5, .iload_n 2, 6, 0, 0, 0, 0, 2), (6, .bipush 20, 8, 0, 20, 0, 0, 0), (8, .if_icmp .gt 12, 11, 20, 0, 0, 0, 0), (11, .iload_n 3, 12, 0, 0, 0, 0, 3), (12, .ifCond .eq 12, 15, 24, 0, 0, 0, 0), (15, .iload_n 3, 16, 0, 0, 0, 0, 3), (16, .iconst 1, 17, 0, 1, 0, 0, 0), (17, .if_icmp .eq 7, 20, 24, 0, 0, 0, 0), (20, .ldc2_w 247, 23, 815, 0, (-4611686018427387904), 0, 0), (23, .lreturn, 24, 0, 0, 0, 0, 0), (24, .aload_n 0, 25, 0, 0, 0, 0, 0), (25, .getfield 32, 28, 301, 0, 0, 5, 3), (28, .aload_n 0, 29, 0, 0, 0, 0, 0), (29, .getfield 28, 32, 300, 0, 0, 5, 2), (32, .invokevirtual 173, 35, 671, 0, 0, 0, 1), (35, .iconst 0, 36, 0, 0, 0, 0, 0), (36, .istore 4, 38, 0, 0, 0, 0, 4), (38, .iconst 0, 39, 0, 0, 0, 0, 0), (39, .istore 5, 41, 0, 0, 0, 0, 5), (41, .iload 5, 43, 0, 0, 0, 0, 5), (43, .iload_n 2, 44, 0, 0, 0, 0, 2), (44, .if_icmp .ge 40, 47, 84, 0, 0, 0, 0), (47, .aload_n 0, 48, 0, 0, 0, 0, 0), (48, .getfield 32, 51, 301, 0, 0, 5, 3), (51, .iload_n 1, 52, 0, 0, 0, 0, 1), (52, .iload 5, 54, 0, 0, 0, 0, 5), (54, .iadd, 55, 0, 0, 0, 0, 0), (55, .invokevirtual 243, 58, 805, 0, 0, 0, 1), (58, .aload_n 0, 59, 0, 0, 0, 0, 0), (59, .getfield 32, 62, 301, 0, 0, 5, 3), (62, .invokevirtual 220, 65, 765, 0, 0, 0, 1), (65, .aload_n 0, 66, 0, 0, 0, 0, 0), (66, .getfield 32, 69, 301, 0, 0, 5, 3), (69, .getfield 68, 72, 218, 0, 0, 0, 3), (72, .if_icmp .gt 6, 75, 78, 0, 0, 0, 0), (75, .iinc 4 1, 78, 0, 1, 0, 0, 0), (78, .iinc 5 1, 81, 0, 1, 0, 0, 0), (81, .goto (-40), 84, 41, 0, 0, 0, 0), (84, .iload_n 3, 85, 0, 0, 0, 0, 3), (85, .ifCond .ne 8, 88, 93, 0, 0, 0, 0), (88, .iload 4, 90, 0, 0, 0, 0, 4), (90, .goto 4, 93, 94, 0, 0, 0, 0), (93, .iload_n 2, 94, 0, 0, 0, 0, 2), (94, .iload 4, 96, 0, 0, 0, 0, 4), (96, .iload_n 2, 97, 0, 0, 0, 0, 2), (97, .invokestatic 249, 100, 816, 0, 0, 0, 0), (100, .i2l, 101, 0, 0, 0, 0, 0), (101, .lreturn, 102, 0, 0, 0, 0, 0)]
def tX6_inLowestTerms : List E8 := [(0, .iload_n 2, 1, 0, 0, 0, 0, 2), (1, .istore_n 3, 2, 0, 0, 0, 0, 3), (2, .iload_n 3, 3, 0, 0, 0, 0, 3), (3, .iconst 1, 4, 0, 1, 0, 0, 0), (4, .if_icmp .le 25, 7, 29, 0, 0, 0, 0), (7, .iload_n 1, 8, 0, 0, 0, 0, 1), (8, .iload_n 3, 9, 0, 0, 0, 0, 3), (9, .irem, 10, 0, 0, 0, 0, 0), (10, .ifCond .ne 13, 13, 23, 0, 0, 0, 0), (13, .iload_n 2, 14, 0, 0, 0, 0, 2), (14, .iload_n 3, 15, 0, 0, 0, 0, 3), (15, .irem, 16, 0, 0, 0, 0, 0), (16, .ifCond .ne 7, 19, 23, 0, 0, 0, 0), (19, .iload_n 0, 20, 0, 0, 0, 0, 0), (20, .iload_n 3, 21, 0, 0, 0, 0, 3), (21, .idiv, 22, 0, 0, 0, 0, 0), (22, .ireturn, 23, 0, 0, 0, 0, 0), (23, .iinc 3 (-1), 26, 0, (-1), 0, 0, 0), (26, .goto (-24), 29, 2, 0, 0, 0, 0), (29, .iload_n 0, 30, 0, 0, 0, 0, 0), (30, .ireturn, 31, 0, 0, 0, 0, 0)]
def tX6_image : List E8 := [(0, .aload_n 0, 1, 0, 0, 0, 0, 0), (1, .getfield 35, 4, 302, 0, 0, 5, 4), (4, .aload_n 0, 5, 0, 0, 0, 0, 0), (5, .getfield 28, 8, 300, 0, 0, 5, 2), (8, .invokevirtual 173, 11, 671, 0, 0, 0, 1), (11, .aload_n 0, 12, 0, 0, 0, 0, 0), (12, .iconst 1, 13, 0, 1, 0, 0, 0), (13, .putfield 38, 16, 303, 0, 0, 5, 5), (16, .aload_n 0, 17, 0, 0, 0, 0, 0), (17, .getfield 28, 20, 300, 0, 0, 5, 2), (20, .getfield 180, 23, 222, 0, 0, 0, 5), (23, .ireturn, 24, 0, 0, 0, 0, 0)]
def tX6_back : List E8 := [(0, .aload_n 0, 1, 0, 0, 0, 0, 0), (1, .getfield 38, 4, 303, 0, 0, 5, 5), (4, .ifCond .ne 6, 7, 10, 0, 0, 0, 0), (7, .bipush (-3), 9, 0, (-3), 0, 0, 0), (9, .ireturn, 10, 0, 0, 0, 0, 0), (10, .aload_n 0, 11, 0, 0, 0, 0, 0), (11, .getfield 28, 14, 300, 0, 0, 5, 2), (14, .aload_n 0, 15, 0, 0, 0, 0, 0), (15, .getfield 35, 18, 302, 0, 0, 5, 4), (18, .invokevirtual 173, 21, 671, 0, 0, 0, 1), (21, .aload_n 0, 22, 0, 0, 0, 0, 0), (22, .getfield 28, 25, 300, 0, 0, 5, 2), (25, .getfield 180, 28, 222, 0, 0, 0, 5), (28, .ireturn, 29, 0, 0, 0, 0, 0)]
def tX6_count : List E8 := [(0, .iload_n 1, 1, 0, 0, 0, 0, 1), (1, .tableswitch 87 0 5 #[39, 47, 55, 63, 71, 79], 40, 0, 0, 0, 0, 0), (40, .aload_n 0, 41, 0, 0, 0, 0, 0), (41, .getfield 28, 44, 300, 0, 0, 5, 2), (44, .getfield 180, 47, 222, 0, 0, 0, 5), (47, .ireturn, 48, 0, 0, 0, 0, 0), (48, .aload_n 0, 49, 0, 0, 0, 0, 0), (49, .getfield 28, 52, 300, 0, 0, 5, 2), (52, .getfield 252, 55, 227, 0, 0, 0, 9), (55, .ireturn, 56, 0, 0, 0, 0, 0), (56, .aload_n 0, 57, 0, 0, 0, 0, 0), (57, .getfield 28, 60, 300, 0, 0, 5, 2), (60, .invokevirtual 167, 63, 652, 0, 0, 0, 1), (63, .ireturn, 64, 0, 0, 0, 0, 0), (64, .aload_n 0, 65, 0, 0, 0, 0, 0), (65, .getfield 10, 68, 298, 0, 0, 5, 0), (68, .getfield 217, 71, 160, 0, 0, 4, 0), (71, .ireturn, 72, 0, 0, 0, 0, 0), (72, .aload_n 0, 73, 0, 0, 0, 0, 0), (73, .getfield 21, 76, 299, 0, 0, 5, 1), (76, .getfield 255, 79, 186, 0, 0, 2, 2), (79, .ireturn, 80, 0, 0, 0, 0, 0), (80, .aload_n 0, 81, 0, 0, 0, 0, 0), (81, .getfield 28, 84, 300, 0, 0, 5, 2), (84, .getfield 147, 87, 220, 0, 0, 0, 4), (87, .ireturn, 88, 0, 0, 0, 0, 0), (88, .bipush (-2), 90, 0, (-2), 0, 0, 0), (90, .ireturn, 91, 0, 0, 0, 0, 0)]
def tX6_sheet : List E8 := [(0, .aload_n 0, 1, 0, 0, 0, 0, 0), (1, .getfield 52, 4, 305, 0, 0, 5, 7), (4, .iload_n 1, 5, 0, 0, 0, 0, 1), (5, .invokevirtual 192, 8, 727, 0, 0, 0, 1), (8, .ifCond .ne 6, 11, 14, 0, 0, 0, 0), (11, .bipush (-2), 13, 0, (-2), 0, 0, 0), (13, .ireturn, 14, 0, 0, 0, 0, 0), (14, .iload_n 2, 15, 0, 0, 0, 0, 2), (15, .iconst (-1), 16, 0, (-1), 0, 0, 0), (16, .if_icmp .ne 15, 19, 31, 0, 0, 0, 0), (19, .aload_n 0, 20, 0, 0, 0, 0, 0), (20, .getfield 52, 23, 305, 0, 0, 5, 7), (23, .iload_n 1, 24, 0, 0, 0, 0, 1), (24, .iconst (-1), 25, 0, (-1), 0, 0, 0), (25, .iconst 0, 26, 0, 0, 0, 0, 0), (26, .invokevirtual 236, 29, 793, 0, 0, 0, 1), (29, .iconst 1, 30, 0, 1, 0, 0, 0), (30, .ireturn, 31, 0, 0, 0, 0, 0), (31, .iload_n 2, 32, 0, 0, 0, 0, 2), (32, .invokestatic 258, 35, 835, 0, 0, 0, 1), (35, .ifCond .eq 9, 38, 44, 0, 0, 0, 0), (38, .iload_n 3, 39, 0, 0, 0, 0, 3), (39, .bipush 40, 41, 0, 40, 0, 0, 0), (41, .if_icmp .le 6, 44, 47, 0, 0, 0, 0), (44, .bipush (-2), 46, 0, (-2), 0, 0, 0), (46, .ireturn, 47, 0, 0, 0, 0, 0), (47, .iload_n 3, 48, 0, 0, 0, 0, 3), (48, .ifCond .ge 6, 51, 54, 0, 0, 0, 0), (51, .bipush (-14), 53, 0, (-14), 0, 0, 0), (53, .ireturn, 54, 0, 0, 0, 0, 0), (54, .aload_n 0, 55, 0, 0, 0, 0, 0), (55, .getfield 52, 58, 305, 0, 0, 5, 7), (58, .iload_n 1, 59, 0, 0, 0, 0, 1), (59, .iload_n 2, 60, 0, 0, 0, 0, 2), (60, .iload_n 3, 61, 0, 0, 0, 0, 3), (61, .invokevirtual 236, 64, 793, 0, 0, 0, 1), (64, .iconst 1, 65, 0, 1, 0, 0, 0), (65, .ireturn, 66, 0, 0, 0, 0, 0)]
def tX6_cell : List E8 := [(0, .aload_n 0, 1, 0, 0, 0, 0, 0), (1, .getfield 52, 4, 305, 0, 0, 5, 7), (4, .iload_n 1, 5, 0, 0, 0, 0, 1), (5, .invokevirtual 192, 8, 727, 0, 0, 0, 1), (8, .ifCond .ne 6, 11, 14, 0, 0, 0, 0), (11, .bipush (-2), 13, 0, (-2), 0, 0, 0), (13, .ireturn, 14, 0, 0, 0, 0, 0), (14, .aload_n 0, 15, 0, 0, 0, 0, 0), (15, .getfield 52, 18, 305, 0, 0, 5, 7), (18, .iload_n 1, 19, 0, 0, 0, 0, 1), (19, .invokevirtual 198, 22, 735, 0, 0, 0, 1), (22, .ifCond .eq 6, 25, 28, 0, 0, 0, 0), (25, .bipush (-11), 27, 0, (-11), 0, 0, 0), (27, .ireturn, 28, 0, 0, 0, 0, 0), (28, .aload_n 0, 29, 0, 0, 0, 0, 0), (29, .getfield 52, 32, 305, 0, 0, 5, 7), (32, .iload_n 1, 33, 0, 0, 0, 0, 1), (33, .iload_n 2, 34, 0, 0, 0, 0, 2), (34, .invokevirtual 261, 37, 842, 0, 0, 0, 1), (37, .ifCond .ne 6, 40, 43, 0, 0, 0, 0), (40, .bipush (-12), 42, 0, (-12), 0, 0, 0), (42, .ireturn, 43, 0, 0, 0, 0, 0), (43, .aload_n 0, 44, 0, 0, 0, 0, 0), (44, .getfield 52, 47, 305, 0, 0, 5, 7), (47, .iload_n 1, 48, 0, 0, 0, 0, 1), (48, .iload_n 2, 49, 0, 0, 0, 0, 2), (49, .iload_n 3, 50, 0, 0, 0, 0, 3), (50, .invokevirtual 240, 53, 797, 0, 0, 0, 1), (53, .iconst 1, 54, 0, 1, 0, 0, 0), (54, .ireturn, 55, 0, 0, 0, 0, 0)]
def tX6_copy : List E8 := [(0, .aload_n 0, 1, 0, 0, 0, 0, 0), (1, .getfield 52, 4, 305, 0, 0, 5, 7), (4, .iload_n 1, 5, 0, 0, 0, 0, 1), (5, .invokevirtual 192, 8, 727, 0, 0, 0, 1), (8, .ifCond .eq 14, 11, 22, 0, 0, 0, 0), (11, .aload_n 0, 12, 0, 0, 0, 0, 0), (12, .getfield 52, 15, 305, 0, 0, 5, 7), (15, .iload_n 3, 16, 0, 0, 0, 0, 3), (16, .invokevirtual 192, 19, 727, 0, 0, 0, 1), (19, .ifCond .ne 6, 22, 25, 0, 0, 0, 0), (22, .bipush (-2), 24, 0, (-2), 0, 0, 0), (24, .ireturn, 25, 0, 0, 0, 0, 0), (25, .aload_n 0, 26, 0, 0, 0, 0, 0), (26, .getfield 52, 29, 305, 0, 0, 5, 7), (29, .iload_n 1, 30, 0, 0, 0, 0, 1), (30, .invokevirtual 198, 33, 735, 0, 0, 0, 1), (33, .ifCond .ne 14, 36, 47, 0, 0, 0, 0), (36, .aload_n 0, 37, 0, 0, 0, 0, 0), (37, .getfield 52, 40, 305, 0, 0, 5, 7), (40, .iload_n 3, 41, 0, 0, 0, 0, 3), (41, .invokevirtual 198, 44, 735, 0, 0, 0, 1), (44, .ifCond .eq 6, 47, 50, 0, 0, 0, 0), (47, .bipush (-11), 49, 0, (-11), 0, 0, 0), (49, .ireturn, 50, 0, 0, 0, 0, 0), (50, .aload_n 0, 51, 0, 0, 0, 0, 0), (51, .getfield 52, 54, 305, 0, 0, 5, 7), (54, .iload_n 1, 55, 0, 0, 0, 0, 1), (55, .invokevirtual 263, 58, 847, 0, 0, 0, 1), (58, .aload_n 0, 59, 0, 0, 0, 0, 0), (59, .getfield 52, 62, 305, 0, 0, 5, 7), (62, .iload_n 3, 63, 0, 0, 0, 0, 3), (63, .invokevirtual 263, 66, 847, 0, 0, 0, 1), (66, .if_icmp .eq 6, 69, 72, 0, 0, 0, 0), (69, .bipush (-13), 71, 0, (-13), 0, 0, 0), (71, .ireturn, 72, 0, 0, 0, 0, 0), (72, .aload_n 0, 73, 0, 0, 0, 0, 0), (73, .getfield 52, 76, 305, 0, 0, 5, 7), (76, .iload_n 1, 77, 0, 0, 0, 0, 1), (77, .iload_n 2, 78, 0, 0, 0, 0, 2), (78, .iload 5, 80, 0, 0, 0, 0, 5), (80, .invokevirtual 266, 83, 848, 0, 0, 0, 1), (83, .ifCond .eq 18, 86, 101, 0, 0, 0, 0), (86, .aload_n 0, 87, 0, 0, 0, 0, 0), (87, .getfield 52, 90, 305, 0, 0, 5, 7), (90, .iload_n 3, 91, 0, 0, 0, 0, 3), (91, .iload 4, 93, 0, 0, 0, 0, 4), (93, .iload 5, 95, 0, 0, 0, 0, 5), (95, .invokevirtual 266, 98, 848, 0, 0, 0, 1), (98, .ifCond .ne 6, 101, 104, 0, 0, 0, 0), (101, .bipush (-12), 103, 0, (-12), 0, 0, 0), (103, .ireturn, 104, 0, 0, 0, 0, 0), (104, .aload_n 0, 105, 0, 0, 0, 0, 0), (105, .getfield 52, 108, 305, 0, 0, 5, 7), (108, .iload_n 1, 109, 0, 0, 0, 0, 1), (109, .iload_n 2, 110, 0, 0, 0, 0, 2), (110, .iload_n 3, 111, 0, 0, 0, 0, 3), (111, .iload 4, 113, 0, 0, 0, 0, 4), (113, .iload 5, 115, 0, 0, 0, 0, 5), (115, .invokevirtual 270, 118, 852, 0, 0, 0, 1), (118, .iload 5, 120, 0, 0, 0, 0, 5), (120, .ireturn, 121, 0, 0, 0, 0, 0)]
def tX6_citizens : List E8 := [(0, .aload_n 0, 1, 0, 0, 0, 0, 0), (1, .getfield 52, 4, 305, 0, 0, 5, 7), (4, .iload_n 1, 5, 0, 0, 0, 0, 1), (5, .invokevirtual 192, 8, 727, 0, 0, 0, 1), (8, .ifCond .eq 22, 11, 30, 0, 0, 0, 0), (11, .iload_n 2, 12, 0, 0, 0, 0, 2), (12, .invokestatic 258, 15, 835, 0, 0, 0, 1), (15, .ifCond .eq 15, 18, 30, 0, 0, 0, 0), (18, .iload 4, 20, 0, 0, 0, 0, 4), (20, .ifCond .lt 10, 23, 30, 0, 0, 0, 0), (23, .iload 4, 25, 0, 0, 0, 0, 4), (25, .bipush 8, 27, 0, 8, 0, 0, 0), (27, .if_icmp .le 6, 30, 33, 0, 0, 0, 0), (30, .bipush (-2), 32, 0, (-2), 0, 0, 0), (32, .ireturn, 33, 0, 0, 0, 0, 0), (33, .aload_n 0, 34, 0, 0, 0, 0, 0), (34, .getfield 52, 37, 305, 0, 0, 5, 7), (37, .iload_n 1, 38, 0, 0, 0, 0, 1), (38, .invokevirtual 198, 41, 735, 0, 0, 0, 1), (41, .ifCond .eq 6, 44, 47, 0, 0, 0, 0), (44, .bipush (-11), 46, 0, (-11), 0, 0, 0), (46, .ireturn, 47, 0, 0, 0, 0, 0), (47, .aload_n 0, 48, 0, 0, 0, 0, 0), (48, .getfield 52, 51, 305, 0, 0, 5, 7), (51, .iload_n 1, 52, 0, 0, 0, 0, 1), (52, .invokevirtual 263, 55, 847, 0, 0, 0, 1), (55, .iload_n 2, 56, 0, 0, 0, 0, 2), (56, .if_icmp .eq 6, 59, 62, 0, 0, 0, 0), (59, .bipush (-13), 61, 0, (-13), 0, 0, 0), (61, .ireturn, 62, 0, 0, 0, 0, 0), (62, .iconst 0, 63, 0, 0, 0, 0, 0), (63, .istore 5, 65, 0, 0, 0, 0, 5), (65, .iconst 0, 66, 0, 0, 0, 0, 0), (66, .istore 6, 68, 0, 0, 0, 0, 6), (68, .iload 6, 70, 0, 0, 0, 0, 6), (70, .iload 4, 72, 0, 0, 0, 0, 4), (72, .if_icmp .ge 80, 75, 152, 0, 0, 0, 0), (75, .iload_n 3, 76, 0, 0, 0, 0, 3), (76, .iconst 2, 77, 0, 2, 0, 0, 0), (77, .iload 6, 79, 0, 0, 0, 0, 6), (79, .imul, 80, 0, 0, 0, 0, 0), (80, .iadd, 81, 0, 0, 0, 0, 0), (81, .istore 7, 83, 0, 0, 0, 0, 7), (83, .aload_n 0, 84, 0, 0, 0, 0, 0), (84, .getfield 52, 87, 305, 0, 0, 5, 7), (87, .iload_n 1, 88, 0, 0, 0, 0, 1), (88, .iload 7, 90, 0, 0, 0, 0, 7), (90, .invokevirtual 261, 93, 842, 0, 0, 0, 1), (93, .ifCond .eq 18, 96, 111, 0, 0, 0, 0), (96, .aload_n 0, 97, 0, 0, 0, 0, 0), (97, .getfield 52, 100, 305, 0, 0, 5, 7), (100, .iload_n 1, 101, 0, 0, 0, 0, 1), (101, .iload 7, 103, 0, 0, 0, 0, 7), (103, .iconst 1, 104, 0, 1, 0, 0, 0), (104, .iadd, 105, 0, 0, 0, 0, 0), (105, .invokevirtual 261, 108, 842, 0, 0, 0, 1), (108, .ifCond .ne 6, 111, 114, 0, 0, 0, 0), (111, .bipush (-12), 113, 0, (-12), 0, 0, 0), (113, .ireturn, 114, 0, 0, 0, 0, 0), (114, .aload_n 0, 115, 0, 0, 0, 0, 0), (115, .aload_n 0, 116, 0, 0, 0, 0, 0), (116, .getfield 52, 119, 305, 0, 0, 5, 7), (119, .iload_n 1, 120, 0, 0, 0, 0, 1), (120, .iload 7, 122, 0, 0, 0, 0, 7), (122, .invokevirtual 204, 125, 748, 0, 0, 0, 1), (125, .aload_n 0, 126, 0, 0, 0, 0, 0), (126, .getfield 52, 129, 305, 0, 0, 5, 7), (129, .iload_n 1, 130, 0, 0, 0, 0, 1), (130, .iload 7, 132, 0, 0, 0, 0, 7), (132, .iconst 1, 133, 0, 1, 0, 0, 0), (133, .iadd, 134, 0, 0, 0, 0, 0), (134, .invokevirtual 204, 137, 748, 0, 0, 0, 1), (137, .invokevirtual 274, 140, 862, 0, 0, 0, 0), (140, .ifCond .lt 6, 143, 146, 0, 0, 0, 0), (143, .iinc 5 1, 146, 0, 1, 0, 0, 0), (146, .iinc 6 1, 149, 0, 1, 0, 0, 0), (149, .goto (-81), 152, 68, 0, 0, 0, 0), (152, .iload 5, 154, 0, 0, 0, 0, 5), (154, .ireturn, 155, 0, 0, 0, 0, 0)]
def tX6_taken : List E8 := [(0, .iload_n 2, 1, 0, 0, 0, 0, 2), (1, .invokestatic 78, 4, 447, 0, 0, 0, 1), (4, .ifCond .ne 6, 7, 10, 0, 0, 0, 0), (7, .bipush (-2), 9, 0, (-2), 0, 0, 0), (9, .ireturn, 10, 0, 0, 0, 0, 0), (10, .aload_n 0, 11, 0, 0, 0, 0, 0), (11, .getfield 28, 14, 300, 0, 0, 5, 2), (14, .iload_n 1, 15, 0, 0, 0, 0, 1), (15, .invokevirtual 90, 18, 331, 0, 0, 0, 1), (18, .ifCond .ne 6, 21, 24, 0, 0, 0, 0), (21, .bipush (-11), 23, 0, (-11), 0, 0, 0), (23, .ireturn, 24, 0, 0, 0, 0, 0), (24, .aload_n 0, 25, 0, 0, 0, 0, 0), (25, .getfield 28, 28, 300, 0, 0, 5, 2), (28, .iload_n 1, 29, 0, 0, 0, 0, 1), (29, .invokevirtual 108, 32, 348, 0, 0, 0, 1), (32, .iload_n 2, 33, 0, 0, 0, 0, 2), (33, .invokestatic 277, 36, 867, 0, 0, 0, 1), (36, .ifCond .eq 14, 39, 50, 0, 0, 0, 0), (39, .aload_n 0, 40, 0, 0, 0, 0, 0), (40, .getfield 28, 43, 300, 0, 0, 5, 2), (43, .iload_n 1, 44, 0, 0, 0, 0, 1), (44, .invokevirtual 102, 47, 339, 0, 0, 0, 1), (47, .goto 5, 50, 52, 0, 0, 0, 0), (50, .bipush (-13), 52, 0, (-13), 0, 0, 0), (52, .ireturn, 53, 0, 0, 0, 0, 0)]
def tX7_in : List E8 := [(0, .lload_n 0, 1, 0, 0, 0, 0, 0), (1, .lload_n 2, 2, 0, 0, 0, 0, 2), (2, .lcmp, 3, 0, 0, 0, 0, 0), (3, .ifCond .lt 14, 6, 17, 0, 0, 0, 0), (6, .lload_n 0, 7, 0, 0, 0, 0, 0), (7, .lload 4, 9, 0, 0, 0, 0, 4), (9, .lcmp, 10, 0, 0, 0, 0, 0), (10, .ifCond .gt 7, 13, 17, 0, 0, 0, 0), (13, .iconst 1, 14, 0, 1, 0, 0, 0), (14, .goto 4, 17, 18, 0, 0, 0, 0), (17, .iconst 0, 18, 0, 0, 0, 0, 0), (18, .ireturn, 19, 0, 0, 0, 0, 0)]
def tX7_within : List E8 := [(0, .iload_n 0, 1, 0, 0, 0, 0, 0), (1, .iload_n 1, 2, 0, 0, 0, 0, 1), (2, .if_icmp .ge 7, 5, 9, 0, 0, 0, 0), (5, .iload_n 1, 6, 0, 0, 0, 0, 1), (6, .goto 13, 9, 19, 0, 0, 0, 0), (9, .iload_n 0, 10, 0, 0, 0, 0, 0), (10, .iload_n 2, 11, 0, 0, 0, 0, 2), (11, .if_icmp .le 7, 14, 18, 0, 0, 0, 0), (14, .iload_n 2, 15, 0, 0, 0, 0, 2), (15, .goto 4, 18, 19, 0, 0, 0, 0), (18, .iload_n 0, 19, 0, 0, 0, 0, 0), (19, .ireturn, 20, 0, 0, 0, 0, 0)]
def tX7_init : List E8 := [(0, .aload_n 0, 1, 0, 0, 0, 0, 0), (1, .invokespecial 7, 4, 878, 0, 0, 0, 0), (4, .aload_n 0, 5, 0, 0, 0, 0, 0), (5, .sipush 960, 8, 0, 960, 0, 0, 0), (8, .newarray .int, 10, 0, 0, 0, 0, 0), (10, .putfield 13, 13, 883, 0, 0, 6, 1), (13, .aload_n 0, 14, 0, 0, 0, 0, 0), (14, .bipush 6, 16, 0, 6, 0, 0, 0), (16, .newarray .int, 18, 0, 0, 0, 0, 0), (18, .putfield 17, 21, 884, 0, 0, 6, 2), (21, .aload_n 0, 22, 0, 0, 0, 0, 0), (22, .sipush 160, 25, 0, 160, 0, 0, 0), (25, .newarray .int, 27, 0, 0, 0, 0, 0), (27, .putfield 20, 30, 887, 0, 0, 6, 5), (30, .aload_n 0, 31, 0, 0, 0, 0, 0), (31, .bipush 60, 33, 0, 60, 0, 0, 0), (33, .putfield 23, 36, 890, 0, 0, 6, 8), (36, .aload_n 0, 37, 0, 0, 0, 0, 0), (37, .bipush 8, 39, 0, 8, 0, 0, 0), (39, .newarray .int, 41, 0, 0, 0, 0, 0), (41, .putfield 26, 44, 891, 0, 0, 6, 9), (44, .aload_n 0, 45, 0, 0, 0, 0, 0), (45, .bipush 8, 47, 0, 8, 0, 0, 0), (47, .newarray .int, 49, 0, 0, 0, 0, 0), (49, .putfield 29, 52, 892, 0, 0, 6, 10), (52, .aload_n 0, 53, 0, 0, 0, 0, 0), (53, .bipush 8, 55, 0, 8, 0, 0, 0), (55, .newarray .int, 57, 0, 0, 0, 0, 0), (57, .putfield 32, 60, 893, 0, 0, 6, 11), (60, .aload_n 0, 61, 0, 0, 0, 0, 0), (61, .bipush 18, 63, 0, 18, 0, 0, 0), (63, .newarray .int, 65, 0, 0, 0, 0, 0), (65, .putfield 35, 68, 895, 0, 0, 6, 13), (68, .aload_n 0, 69, 0, 0, 0, 0, 0), (69, .sipush 1024, 72, 0, 1024, 0, 0, 0), (72, .newarray .long, 74, 0, 0, 0, 0, 0), (74, .putfield 38, 77, 912, 0, 0, 6, 30), (77, .aload_n 0, 78, 0, 0, 0, 0, 0), (78, .sipush 1024, 81, 0, 1024, 0, 0, 0), (81, .newarray .int, 83, 0, 0, 0, 0, 0), (83, .putfield 42, 86, 913, 0, 0, 6, 31), (86, .aload_n 0, 87, 0, 0, 0, 0, 0), (87, .bipush 18, 89, 0, 18, 0, 0, 0), (89, .newarray .int, 91, 0, 0, 0, 0, 0), (91, .putfield 45, 94, 915, 0, 0, 6, 33), (94, .aload_n 0, 95, 0, 0, 0, 0, 0), (95, .bipush 41, 97, 0, 41, 0, 0, 0), (97, .newarray .int, 99, 0, 0, 0, 0, 0), (99, .putfield 48, 102, 917, 0, 0, 6, 35), (102, .aload_n 0, 103, 0, 0, 0, 0, 0), (103, .bipush 8, 105, 0, 8, 0, 0, 0), (105, .newarray .int, 107, 0, 0, 0, 0, 0), (107, .putfield 51, 110, 924, 0, 0, 6, 42), (110, .aload_n 0, 111, 0, 0, 0, 0, 0), (111, .bipush 8, 113, 0, 8, 0, 0, 0), (113, .newarray .int, 115, 0, 0, 0, 0, 0), (115, .putfield 54, 118, 925, 0, 0, 6, 43), (118, .aload_n 0, 119, 0, 0, 0, 0, 0), (119, .bipush 8, 121, 0, 8, 0, 0, 0), (121, .newarray .int, 123, 0, 0, 0, 0, 0), (123, .putfield 57, 126, 926, 0, 0, 6, 44), (126, .aload_n 0, 127, 0, 0, 0, 0, 0), (127, .bipush 18, 129, 0, 18, 0, 0, 0), (129, .newarray .int, 131, 0, 0, 0, 0, 0), (131, .putfield 60, 134, 927, 0, 0, 6, 45), (134, .aload_n 0, 135, 0, 0, 0, 0, 0), (135, .iconst (-1), 136, 0, (-1), 0, 0, 0), (136, .putfield 63, 139, 928, 0, 0, 6, 46), (139, .aload_n 0, 140, 0, 0, 0, 0, 0), (140, .iconst 4, 141, 0, 4, 0, 0, 0), (141, .newarray .boolean, 143, 0, 0, 0, 0, 0), (143, .putfield 66, 146, 933, 0, 0, 6, 51), (146, .aload_n 0, 147, 0, 0, 0, 0, 0), (147, .iconst 4, 148, 0, 4, 0, 0, 0), (148, .newarray .int, 150, 0, 0, 0, 0, 0), (150, .putfield 70, 153, 934, 0, 0, 6, 52), (153, .aload_n 0, 154, 0, 0, 0, 0, 0), (154, .iconst 4, 155, 0, 4, 0, 0, 0), (155, .newarray .int, 157, 0, 0, 0, 0, 0), (157, .putfield 73, 160, 935, 0, 0, 6, 53), (160, .aload_n 0, 161, 0, 0, 0, 0, 0), (161, .sipush 160, 164, 0, 160, 0, 0, 0), (164, .newarray .int, 166, 0, 0, 0, 0, 0), (166, .putfield 76, 169, 936, 0, 0, 6, 54), (169, .aload_n 0, 170, 0, 0, 0, 0, 0), (170, .iconst 0, 171, 0, 0, 0, 0, 0), (171, .bipush 114, 173, 0, 114, 0, 0, 0), (173, .bipush 101, 175, 0, 101, 0, 0, 0), (175, .bipush 97, 177, 0, 97, 0, 0, 0), (177, .bipush 100, 179, 0, 100, 0, 0, 0), (179, .bipush 115, 181, 0, 115, 0, 0, 0), (181, .bipush 32, 183, 0, 32, 0, 0, 0), (183, .bipush 98, 185, 0, 98, 0, 0, 0), (185, .bipush 114, 187, 0, 114, 0, 0, 0), (187, .invokevirtual 79, 190, 879, 0, 0, 0, 0), (190, .aload_n 0, 191, 0, 0, 0, 0, 0), (191, .bipush 8, 193, 0, 8, 0, 0, 0), (193, .bipush 105, 195, 0, 105, 0, 0, 0), (195, .bipush 98, 197, 0, 98, 0, 0, 0), (197, .bipush 101, 199, 0, 101, 0, 0, 0), (199, .bipush 32, 201, 0, 32, 0, 0, 0), (201, .bipush 59, 203, 0, 59, 0, 0, 0), (203, .bipush 32, 205, 0, 32, 0, 0, 0), (205, .bipush 115, 207, 0, 115, 0, 0, 0), (207, .bipush 116, 209, 0, 116, 0, 0, 0), (209, .invokevirtual 79, 212, 879, 0, 0, 0, 0), (212, .aload_n 0, 213, 0, 0, 0, 0, 0), (213, .bipush 16, 215, 0, 16, 0, 0, 0), (215, .bipush 105, 217, 0, 105, 0, 0, 0), (217, .bipush 108, 219, 0, 108, 0, 0, 0), (219, .bipush 108, 221, 0, 108, 0, 0, 0), (221, .bipush 115, 223, 0, 115, 0, 0, 0), (223, .bipush 32, 225, 0, 32, 0, 0, 0), (225, .bipush 51, 227, 0, 51, 0, 0, 0), (227, .bipush 32, 229, 0, 32, 0, 0, 0), (229, .bipush 59, 231, 0, 59, 0, 0, 0), (231, .invokevirtual 79, 234, 879, 0, 0, 0, 0), (234, .aload_n 0, 235, 0, 0, 0, 0, 0), (235, .bipush 24, 237, 0, 24, 0, 0, 0), (237, .bipush 32, 239, 0, 32, 0, 0, 0), (239, .bipush 110, 241, 0, 110, 0, 0, 0), (241, .bipush 97, 243, 0, 97, 0, 0, 0), (243, .bipush 109, 245, 0, 109, 0, 0, 0), (245, .bipush 101, 247, 0, 101, 0, 0, 0), (247, .bipush 115, 249, 0, 115, 0, 0, 0), (249, .bipush 32, 251, 0, 32, 0, 0, 0), (251, .bipush 49, 253, 0, 49, 0, 0, 0), (253, .invokevirtual 79, 256, 879, 0, 0, 0, 0), (256, .aload_n 0, 257, 0, 0, 0, 0, 0), (257, .bipush 32, 259, 0, 32, 0, 0, 0), (259, .bipush 32, 261, 0, 32, 0, 0, 0), (261, .bipush 59, 263, 0, 59, 0, 0, 0), (263, .bipush 32, 265, 0, 32, 0, 0, 0), (265, .bipush 32, 267, 0, 32, 0, 0, 0), (267, .bipush 32, 269, 0, 32, 0, 0, 0), (269, .bipush 32, 271, 0, 32, 0, 0, 0), (271, .bipush 32, 273, 0, 32, 0, 0, 0), (273, .bipush 32, 275, 0, 32, 0, 0, 0), (275, .invokevirtual 79, 278, 879, 0, 0, 0, 0), (278, .aload_n 0, 279, 0, 0, 0, 0, 0), (279, .getfield 17, 282, 884, 0, 0, 6, 2), (282, .iconst 0, 283, 0, 0, 0, 0, 0), (283, .bipush 40, 285, 0, 40, 0, 0, 0), (285, .iastore, 286, 0, 0, 0, 0, 0), (286, .aload_n 0, 287, 0, 0, 0, 0, 0), (287, .iconst 1, 288, 0, 1, 0, 0, 0), (288, .putfield 83, 291, 885, 0, 0, 6, 3), (291, .return_, 292, 0, 0, 0, 0, 0)]
def tX7_spell : List E8 := [(0, .aload_n 0, 1, 0, 0, 0, 0, 0), (1, .getfield 13, 4, 883, 0, 0, 6, 1), (4, .iload_n 1, 5, 0, 0, 0, 0, 1), (5, .iload_n 2, 6, 0, 0, 0, 0, 2), (6, .iastore, 7, 0, 0, 0, 0, 0), (7, .aload_n 0, 8, 0, 0, 0, 0, 0), (8, .getfield 13, 11, 883, 0, 0, 6, 1), (11, .iload_n 1, 12, 0, 0, 0, 0, 1), (12, .iconst 1, 13, 0, 1, 0, 0, 0), (13, .iadd, 14, 0, 0, 0, 0, 0), (14, .iload_n 3, 15, 0, 0, 0, 0, 3), (15, .iastore, 16, 0, 0, 0, 0, 0), (16, .aload_n 0, 17, 0, 0, 0, 0, 0), (17, .getfield 13, 20, 883, 0, 0, 6, 1), (20, .iload_n 1, 21, 0, 0, 0, 0, 1), (21, .iconst 2, 22, 0, 2, 0, 0, 0), (22, .iadd, 23, 0, 0, 0, 0, 0), (23, .iload 4, 25, 0, 0, 0, 0, 4), (25, .iastore, 26, 0, 0, 0, 0, 0), (26, .aload_n 0, 27, 0, 0, 0, 0, 0), (27, .getfield 13, 30, 883, 0, 0, 6, 1), (30, .iload_n 1, 31, 0, 0, 0, 0, 1), (31, .iconst 3, 32, 0, 3, 0, 0, 0), (32, .iadd, 33, 0, 0, 0, 0, 0), (33, .iload 5, 35, 0, 0, 0, 0, 5), (35, .iastore, 36, 0, 0, 0, 0, 0), (36, .aload_n 0, 37, 0, 0, 0, 0, 0), (37, .getfield 13, 40, 883, 0, 0, 6, 1), (40, .iload_n 1, 41, 0, 0, 0, 0, 1), (41, .iconst 4, 42, 0, 4, 0, 0, 0), (42, .iadd, 43, 0, 0, 0, 0, 0), (43, .iload 6, 45, 0, 0, 0, 0, 6), (45, .iastore, 46, 0, 0, 0, 0, 0), (46, .aload_n 0, 47, 0, 0, 0, 0, 0), (47, .getfield 13, 50, 883, 0, 0, 6, 1), (50, .iload_n 1, 51, 0, 0, 0, 0, 1), (51, .iconst 5, 52, 0, 5, 0, 0, 0), (52, .iadd, 53, 0, 0, 0, 0, 0), (53, .iload 7, 55, 0, 0, 0, 0, 7), (55, .iastore, 56, 0, 0, 0, 0, 0), (56, .aload_n 0, 57, 0, 0, 0, 0, 0), (57, .getfield 13, 60, 883, 0, 0, 6, 1), (60, .iload_n 1, 61, 0, 0, 0, 0, 1), (61, .bipush 6, 63, 0, 6, 0, 0, 0), (63, .iadd, 64, 0, 0, 0, 0, 0), (64, .iload 8, 66, 0, 0, 0, 0, 8), (66, .iastore, 67, 0, 0, 0, 0, 0), (67, .aload_n 0, 68, 0, 0, 0, 0, 0), (68, .getfield 13, 71, 883, 0, 0, 6, 1), (71, .iload_n 1, 72, 0, 0, 0, 0, 1), (72, .bipush 7, 74, 0, 7, 0, 0, 0), (74, .iadd, 75, 0, 0, 0, 0, 0), (75, .iload 9, 77, 0, 0, 0, 0, 9), (77, .iastore, 78, 0, 0, 0, 0, 0), (78, .return_, 79, 0, 0, 0, 0, 0)]
def tX7_isOne : List E8 := [(0, .iload_n 1, 1, 0, 0, 0, 0, 1), (1, .i2l, 2, 0, 0, 0, 0, 0), (2, .lconst 0, 3, 0, 0, 0, 0, 0), (3, .aload_n 0, 4, 0, 0, 0, 0, 0), (4, .getfield 86, 7, 894, 0, 0, 6, 12), (7, .iconst 1, 8, 0, 1, 0, 0, 0), (8, .isub, 9, 0, 0, 0, 0, 0), (9, .i2l, 10, 0, 0, 0, 0, 0), (10, .invokestatic 89, 13, 1055, 0, 0, 0, 0), (13, .ireturn, 14, 0, 0, 0, 0, 0)]
def tX7_isItem : List E8 := [(0, .iload_n 1, 1, 0, 0, 0, 0, 1), (1, .i2l, 2, 0, 0, 0, 0, 0), (2, .lconst 0, 3, 0, 0, 0, 0, 0), (3, .aload_n 0, 4, 0, 0, 0, 0, 0), (4, .getfield 93, 7, 896, 0, 0, 6, 14), (7, .iconst 1, 8, 0, 1, 0, 0, 0), (8, .isub, 9, 0, 0, 0, 0, 0), (9, .i2l, 10, 0, 0, 0, 0, 0), (10, .invokestatic 89, 13, 1055, 0, 0, 0, 0), (13, .ireturn, 14, 0, 0, 0, 0, 0)]
def tX7_mostOf : List E8 := [(0, .iload_n 0, 1, 0, 0, 0, 0, 0), (1, .ifCond .ne 9, 4, 10, 0, 0, 0, 0), (4, .sipush 999, 7, 0, 999, 0, 0, 0), (7, .goto 26, 10, 33, 0, 0, 0, 0), (10, .iload_n 0, 11, 0, 0, 0, 0, 0), (11, .iconst 1, 12, 0, 1, 0, 0, 0), (12, .if_icmp .ne 9, 15, 21, 0, 0, 0, 0), (15, .sipush 600, 18, 0, 600, 0, 0, 0), (18, .goto 15, 21, 33, 0, 0, 0, 0), (21, .iload_n 0, 22, 0, 0, 0, 0, 0), (22, .iconst 2, 23, 0, 2, 0, 0, 0), (23, .if_icmp .ne 8, 26, 31, 0, 0, 0, 0), (26, .bipush 9, 28, 0, 9, 0, 0, 0), (28, .goto 5, 31, 33, 0, 0, 0, 0), (31, .bipush 99, 33, 0, 99, 0, 0, 0), (33, .ireturn, 34, 0, 0, 0, 0, 0)]
def tX7_set : List E8 := [(0, .iload_n 1, 1, 0, 0, 0, 0, 1), (1, .i2l, 2, 0, 0, 0, 0, 0), (2, .lconst 0, 3, 0, 0, 0, 0, 0), (3, .ldc2_w 96, 6, 1054, 0, 3, 0, 0), (6, .invokestatic 89, 9, 1055, 0, 0, 0, 0), (9, .ifCond .eq 30, 12, 39, 0, 0, 0, 0), (12, .iload_n 1, 13, 0, 0, 0, 0, 1), (13, .iconst 1, 14, 0, 1, 0, 0, 0), (14, .if_icmp .le 11, 17, 25, 0, 0, 0, 0), (17, .aload_n 0, 18, 0, 0, 0, 0, 0), (18, .iload_n 2, 19, 0, 0, 0, 0, 2), (19, .invokevirtual 98, 22, 1058, 0, 0, 0, 0), (22, .ifCond .eq 17, 25, 39, 0, 0, 0, 0), (25, .iload_n 3, 26, 0, 0, 0, 0, 3), (26, .i2l, 27, 0, 0, 0, 0, 0), (27, .lconst 0, 28, 0, 0, 0, 0, 0), (28, .iload_n 1, 29, 0, 0, 0, 0, 1), (29, .invokestatic 102, 32, 1062, 0, 0, 0, 0), (32, .i2l, 33, 0, 0, 0, 0, 0), (33, .invokestatic 89, 36, 1055, 0, 0, 0, 0), (36, .ifCond .ne 6, 39, 42, 0, 0, 0, 0), (39, .bipush (-2), 41, 0, (-2), 0, 0, 0), (41, .ireturn, 42, 0, 0, 0, 0, 0), (42, .aload_n 0, 43, 0, 0, 0, 0, 0), (43, .iload_n 2, 44, 0, 0, 0, 0, 2), (44, .iload_n 1, 45, 0, 0, 0, 0, 1), (45, .invokevirtual 106, 48, 1065, 0, 0, 0, 0), (48, .istore 4, 50, 0, 0, 0, 0, 4), (50, .aload_n 0, 51, 0, 0, 0, 0, 0), (51, .iload_n 1, 52, 0, 0, 0, 0, 1), (52, .iload_n 2, 53, 0, 0, 0, 0, 2), (53, .iload_n 3, 54, 0, 0, 0, 0, 3), (54, .invokevirtual 110, 57, 1176, 0, 0, 0, 0), (57, .iload 4, 59, 0, 0, 0, 0, 4), (59, .ireturn, 60, 0, 0, 0, 0, 0)]
def tX7_lays : List E8 := [(0, .iload_n 1, 1, 0, 0, 0, 0, 1), (1, .ifCond .ne 11, 4, 12, 0, 0, 0, 0), (4, .aload_n 0, 5, 0, 0, 0, 0, 0), (5, .iload_n 3, 6, 0, 0, 0, 0, 3), (6, .putfield 114, 9, 889, 0, 0, 6, 7), (9, .goto 66, 12, 75, 0, 0, 0, 0), (12, .iload_n 1, 13, 0, 0, 0, 0, 1), (13, .iconst 1, 14, 0, 1, 0, 0, 0), (14, .if_icmp .ne 11, 17, 25, 0, 0, 0, 0), (17, .aload_n 0, 18, 0, 0, 0, 0, 0), (18, .iload_n 3, 19, 0, 0, 0, 0, 3), (19, .putfield 23, 22, 890, 0, 0, 6, 8), (22, .goto 53, 25, 75, 0, 0, 0, 0), (25, .iload_n 1, 26, 0, 0, 0, 0, 1), (26, .iconst 2, 27, 0, 2, 0, 0, 0), (27, .if_icmp .ne 13, 30, 40, 0, 0, 0, 0), (30, .aload_n 0, 31, 0, 0, 0, 0, 0), (31, .getfield 29, 34, 892, 0, 0, 6, 10), (34, .iload_n 2, 35, 0, 0, 0, 0, 2), (35, .iload_n 3, 36, 0, 0, 0, 0, 3), (36, .iastore, 37, 0, 0, 0, 0, 0), (37, .goto 38, 40, 75, 0, 0, 0, 0), (40, .iload_n 1, 41, 0, 0, 0, 0, 1), (41, .iconst 3, 42, 0, 3, 0, 0, 0), (42, .if_icmp .ne 13, 45, 55, 0, 0, 0, 0), (45, .aload_n 0, 46, 0, 0, 0, 0, 0), (46, .getfield 32, 49, 893, 0, 0, 6, 11), (49, .iload_n 2, 50, 0, 0, 0, 0, 2), (50, .iload_n 3, 51, 0, 0, 0, 0, 3), (51, .iastore, 52, 0, 0, 0, 0, 0), (52, .goto 23, 55, 75, 0, 0, 0, 0), (55, .iload_n 1, 56, 0, 0, 0, 0, 1), (56, .iconst 4, 57, 0, 4, 0, 0, 0), (57, .if_icmp .ne 13, 60, 70, 0, 0, 0, 0), (60, .aload_n 0, 61, 0, 0, 0, 0, 0), (61, .getfield 26, 64, 891, 0, 0, 6, 9), (64, .iload_n 2, 65, 0, 0, 0, 0, 2), (65, .iload_n 3, 66, 0, 0, 0, 0, 3), (66, .iastore, 67, 0, 0, 0, 0, 0), (67, .goto 8, 70, 75, 0, 0, 0, 0), (70, .aload_n 0, 71, 0, 0, 0, 0, 0), (71, .iload_n 3, 72, 0, 0, 0, 0, 3), (72, .putfield 117, 75, 886, 0, 0, 6, 4), (75, .return_, 76, 0, 0, 0, 0, 0)]
def tX7_citizen : List E8 := [(0, .iload_n 1, 1, 0, 0, 0, 0, 1), (1, .i2l, 2, 0, 0, 0, 0, 0), (2, .lconst 0, 3, 0, 0, 0, 0, 0), (3, .ldc2_w 120, 6, 1184, 0, 5, 0, 0), (6, .invokestatic 89, 9, 1055, 0, 0, 0, 0), (9, .ifCond .eq 15, 12, 24, 0, 0, 0, 0), (12, .iload_n 2, 13, 0, 0, 0, 0, 2), (13, .i2l, 14, 0, 0, 0, 0, 0), (14, .lconst 0, 15, 0, 0, 0, 0, 0), (15, .ldc2_w 122, 18, 1185, 0, 9, 0, 0), (18, .invokestatic 89, 21, 1055, 0, 0, 0, 0), (21, .ifCond .ne 6, 24, 27, 0, 0, 0, 0), (24, .bipush (-2), 26, 0, (-2), 0, 0, 0), (26, .ireturn, 27, 0, 0, 0, 0, 0), (27, .aload_n 0, 28, 0, 0, 0, 0, 0), (28, .getfield 86, 31, 894, 0, 0, 6, 12), (31, .bipush 8, 33, 0, 8, 0, 0, 0), (33, .if_icmp .ne 6, 36, 39, 0, 0, 0, 0), (36, .bipush (-4), 38, 0, (-4), 0, 0, 0), (38, .ireturn, 39, 0, 0, 0, 0, 0), (39, .aload_n 0, 40, 0, 0, 0, 0, 0), (40, .getfield 26, 43, 891, 0, 0, 6, 9), (43, .aload_n 0, 44, 0, 0, 0, 0, 0), (44, .getfield 86, 47, 894, 0, 0, 6, 12), (47, .iload_n 1, 48, 0, 0, 0, 0, 1), (48, .iastore, 49, 0, 0, 0, 0, 0), (49, .aload_n 0, 50, 0, 0, 0, 0, 0), (50, .getfield 29, 53, 892, 0, 0, 6, 10), (53, .aload_n 0, 54, 0, 0, 0, 0, 0), (54, .getfield 86, 57, 894, 0, 0, 6, 12), (57, .iload_n 2, 58, 0, 0, 0, 0, 2), (58, .iastore, 59, 0, 0, 0, 0, 0), (59, .aload_n 0, 60, 0, 0, 0, 0, 0), (60, .getfield 32, 63, 893, 0, 0, 6, 11), (63, .aload_n 0, 64, 0, 0, 0, 0, 0), (64, .getfield 86, 67, 894, 0, 0, 6, 12), (67, .iconst 0, 68, 0, 0, 0, 0, 0), (68, .iastore, 69, 0, 0, 0, 0, 0), (69, .aload_n 0, 70, 0, 0, 0, 0, 0), (70, .dup, 71, 0, 0, 0, 0, 0), (71, .getfield 86, 74, 894, 0, 0, 6, 12), (74, .iconst 1, 75, 0, 1, 0, 0, 0), (75, .iadd, 76, 0, 0, 0, 0, 0), (76, .putfield 86, 79, 894, 0, 0, 6, 12), (79, .aload_n 0, 80, 0, 0, 0, 0, 0), (80, .getfield 86, 83, 894, 0, 0, 6, 12), (83, .iconst 1, 84, 0, 1, 0, 0, 0), (84, .isub, 85, 0, 0, 0, 0, 0), (85, .ireturn, 86, 0, 0, 0, 0, 0)]
def tX7_business : List E8 := [(0, .iload_n 1, 1, 0, 0, 0, 0, 1), (1, .i2l, 2, 0, 0, 0, 0, 0), (2, .lconst 1, 3, 0, 0, 1, 0, 0), (3, .ldc2_w 124, 6, 1190, 0, 999, 0, 0), (6, .invokestatic 89, 9, 1055, 0, 0, 0, 0), (9, .ifCond .ne 6, 12, 15, 0, 0, 0, 0), (12, .bipush (-2), 14, 0, (-2), 0, 0, 0), (14, .ireturn, 15, 0, 0, 0, 0, 0), (15, .aload_n 0, 16, 0, 0, 0, 0, 0), (16, .getfield 93, 19, 896, 0, 0, 6, 14), (19, .bipush 6, 21, 0, 6, 0, 0, 0), (21, .if_icmp .ne 6, 24, 27, 0, 0, 0, 0), (24, .bipush (-4), 26, 0, (-4), 0, 0, 0), (26, .ireturn, 27, 0, 0, 0, 0, 0), (27, .aload_n 0, 28, 0, 0, 0, 0, 0), (28, .getfield 35, 31, 895, 0, 0, 6, 13), (31, .iconst 3, 32, 0, 3, 0, 0, 0), (32, .aload_n 0, 33, 0, 0, 0, 0, 0), (33, .getfield 93, 36, 896, 0, 0, 6, 14), (36, .imul, 37, 0, 0, 0, 0, 0), (37, .iload_n 1, 38, 0, 0, 0, 0, 1), (38, .iastore, 39, 0, 0, 0, 0, 0), (39, .aload_n 0, 40, 0, 0, 0, 0, 0), (40, .getfield 35, 43, 895, 0, 0, 6, 13), (43, .iconst 3, 44, 0, 3, 0, 0, 0), (44, .aload_n 0, 45, 0, 0, 0, 0, 0), (45, .getfield 93, 48, 896, 0, 0, 6, 14), (48, .imul, 49, 0, 0, 0, 0, 0), (49, .iconst 1, 50, 0, 1, 0, 0, 0), (50, .iadd, 51, 0, 0, 0, 0, 0), (51, .iconst 0, 52, 0, 0, 0, 0, 0), (52, .iastore, 53, 0, 0, 0, 0, 0), (53, .aload_n 0, 54, 0, 0, 0, 0, 0), (54, .getfield 35, 57, 895, 0, 0, 6, 13), (57, .iconst 3, 58, 0, 3, 0, 0, 0), (58, .aload_n 0, 59, 0, 0, 0, 0, 0), (59, .getfield 93, 62, 896, 0, 0, 6, 14), (62, .imul, 63, 0, 0, 0, 0, 0), (63, .iconst 2, 64, 0, 2, 0, 0, 0), (64, .iadd, 65, 0, 0, 0, 0, 0), (65, .iconst (-1), 66, 0, (-1), 0, 0, 0), (66, .iastore, 67, 0, 0, 0, 0, 0), (67, .aload_n 0, 68, 0, 0, 0, 0, 0), (68, .dup, 69, 0, 0, 0, 0, 0), (69, .getfield 93, 72, 896, 0, 0, 6, 14), (72, .iconst 1, 73, 0, 1, 0, 0, 0), (73, .iadd, 74, 0, 0, 0, 0, 0), (74, .putfield 93, 77, 896, 0, 0, 6, 14), (77, .aload_n 0, 78, 0, 0, 0, 0, 0), (78, .getfield 93, 81, 896, 0, 0, 6, 14), (81, .iconst 1, 82, 0, 1, 0, 0, 0), (82, .isub, 83, 0, 0, 0, 0, 0), (83, .ireturn, 84, 0, 0, 0, 0, 0)]
def tX7_told : List E8 := [(0, .iload_n 2, 1, 0, 0, 0, 0, 2), (1, .i2l, 2, 0, 0, 0, 0, 0), (2, .lconst 0, 3, 0, 0, 0, 0, 0), (3, .ldc2_w 126, 6, 1069, 0, 10, 0, 0), (6, .invokestatic 89, 9, 1055, 0, 0, 0, 0), (9, .ifCond .eq 39, 12, 48, 0, 0, 0, 0), (12, .iload_n 2, 13, 0, 0, 0, 0, 2), (13, .bipush 7, 15, 0, 7, 0, 0, 0), (15, .if_icmp .le 11, 18, 26, 0, 0, 0, 0), (18, .aload_n 0, 19, 0, 0, 0, 0, 0), (19, .iload_n 1, 20, 0, 0, 0, 0, 1), (20, .invokevirtual 128, 23, 1070, 0, 0, 0, 0), (23, .ifCond .eq 25, 26, 48, 0, 0, 0, 0), (26, .iload_n 2, 27, 0, 0, 0, 0, 2), (27, .i2l, 28, 0, 0, 0, 0, 0), (28, .ldc2_w 131, 31, 1074, 0, 2, 0, 0), (31, .ldc2_w 133, 34, 1075, 0, 7, 0, 0), (34, .invokestatic 89, 37, 1055, 0, 0, 0, 0), (37, .ifCond .eq 14, 40, 51, 0, 0, 0, 0), (40, .aload_n 0, 41, 0, 0, 0, 0, 0), (41, .iload_n 1, 42, 0, 0, 0, 0, 1), (42, .invokevirtual 98, 45, 1058, 0, 0, 0, 0), (45, .ifCond .ne 6, 48, 51, 0, 0, 0, 0), (48, .bipush (-2), 50, 0, (-2), 0, 0, 0), (50, .ireturn, 51, 0, 0, 0, 0, 0), (51, .iload_n 2, 52, 0, 0, 0, 0, 2), (52, .bipush 7, 54, 0, 7, 0, 0, 0), (54, .if_icmp .le 17, 57, 71, 0, 0, 0, 0), (57, .aload_n 0, 58, 0, 0, 0, 0, 0), (58, .getfield 35, 61, 895, 0, 0, 6, 13), (61, .iconst 3, 62, 0, 3, 0, 0, 0), (62, .iload_n 1, 63, 0, 0, 0, 0, 1), (63, .imul, 64, 0, 0, 0, 0, 0), (64, .iload_n 2, 65, 0, 0, 0, 0, 2), (65, .iadd, 66, 0, 0, 0, 0, 0), (66, .bipush 8, 68, 0, 8, 0, 0, 0), (68, .isub, 69, 0, 0, 0, 0, 0), (69, .iaload, 70, 0, 0, 0, 0, 0), (70, .ireturn, 71, 0, 0, 0, 0, 0), (71, .iload_n 2, 72, 0, 0, 0, 0, 2), (72, .iconst 5, 73, 0, 5, 0, 0, 0), (73, .if_icmp .ge 61, 76, 134, 0, 0, 0, 0), (76, .iload_n 2, 77, 0, 0, 0, 0, 2), (77, .ifCond .ne 10, 80, 87, 0, 0, 0, 0), (80, .aload_n 0, 81, 0, 0, 0, 0, 0), (81, .getfield 114, 84, 889, 0, 0, 6, 7), (84, .goto 49, 87, 133, 0, 0, 0, 0), (87, .iload_n 2, 88, 0, 0, 0, 0, 2), (88, .iconst 1, 89, 0, 1, 0, 0, 0), (89, .if_icmp .ne 10, 92, 99, 0, 0, 0, 0), (92, .aload_n 0, 93, 0, 0, 0, 0, 0), (93, .getfield 23, 96, 890, 0, 0, 6, 8), (96, .goto 37, 99, 133, 0, 0, 0, 0), (99, .iload_n 2, 100, 0, 0, 0, 0, 2), (100, .iconst 2, 101, 0, 2, 0, 0, 0), (101, .if_icmp .ne 12, 104, 113, 0, 0, 0, 0), (104, .aload_n 0, 105, 0, 0, 0, 0, 0), (105, .getfield 29, 108, 892, 0, 0, 6, 10), (108, .iload_n 1, 109, 0, 0, 0, 0, 1), (109, .iaload, 110, 0, 0, 0, 0, 0), (110, .goto 23, 113, 133, 0, 0, 0, 0), (113, .iload_n 2, 114, 0, 0, 0, 0, 2), (114, .iconst 3, 115, 0, 3, 0, 0, 0), (115, .if_icmp .ne 12, 118, 127, 0, 0, 0, 0), (118, .aload_n 0, 119, 0, 0, 0, 0, 0), (119, .getfield 32, 122, 893, 0, 0, 6, 11), (122, .iload_n 1, 123, 0, 0, 0, 0, 1), (123, .iaload, 124, 0, 0, 0, 0, 0), (124, .goto 9, 127, 133, 0, 0, 0, 0), (127, .aload_n 0, 128, 0, 0, 0, 0, 0), (128, .getfield 26, 131, 891, 0, 0, 6, 9), (131, .iload_n 1, 132, 0, 0, 0, 0, 1), (132, .iaload, 133, 0, 0, 0, 0, 0), (133, .ireturn, 134, 0, 0, 0, 0, 0), (134, .aload_n 0, 135, 0, 0, 0, 0, 0), (135, .invokevirtual 135, 138, 1076, 0, 0, 0, 0), (138, .istore_n 3, 139, 0, 0, 0, 0, 3), (139, .iload_n 3, 140, 0, 0, 0, 0, 3), (140, .iconst 1, 141, 0, 1, 0, 0, 0), (141, .iload_n 1, 142, 0, 0, 0, 0, 1), (142, .ishl, 143, 0, 0, 0, 0, 0), (143, .iconst 1, 144, 0, 1, 0, 0, 0), (144, .isub, 145, 0, 0, 0, 0, 0), (145, .iand, 146, 0, 0, 0, 0, 0), (146, .invokestatic 139, 149, 1165, 0, 0, 0, 0), (149, .istore 4, 151, 0, 0, 0, 0, 4), (151, .iload_n 2, 152, 0, 0, 0, 0, 2), (152, .iconst 5, 153, 0, 5, 0, 0, 0), (153, .if_icmp .ne 11, 156, 164, 0, 0, 0, 0), (156, .iload_n 3, 157, 0, 0, 0, 0, 3), (157, .iload_n 1, 158, 0, 0, 0, 0, 1), (158, .ishr, 159, 0, 0, 0, 0, 0), (159, .iconst 1, 160, 0, 1, 0, 0, 0), (160, .iand, 161, 0, 0, 0, 0, 0), (161, .goto 26, 164, 187, 0, 0, 0, 0), (164, .iload_n 2, 165, 0, 0, 0, 0, 2), (165, .bipush 6, 167, 0, 6, 0, 0, 0), (167, .if_icmp .ne 13, 170, 180, 0, 0, 0, 0), (170, .aload_n 0, 171, 0, 0, 0, 0, 0), (171, .iload_n 1, 172, 0, 0, 0, 0, 1), (172, .iload 4, 174, 0, 0, 0, 0, 4), (174, .invokevirtual 142, 177, 1168, 0, 0, 0, 0), (177, .goto 10, 180, 187, 0, 0, 0, 0), (180, .aload_n 0, 181, 0, 0, 0, 0, 0), (181, .iload_n 1, 182, 0, 0, 0, 0, 1), (182, .iload 4, 184, 0, 0, 0, 0, 4), (184, .invokevirtual 145, 187, 1172, 0, 0, 0, 0), (187, .ireturn, 188, 0, 0, 0, 0, 0)]
def tX7_bitsOf : List E8 := [(0, .iconst 0, 1, 0, 0, 0, 0, 0), (1, .istore_n 1, 2, 0, 0, 0, 0, 1), (2, .iload_n 0, 3, 0, 0, 0, 0, 0), (3, .istore_n 2, 4, 0, 0, 0, 0, 2), (4, .iload_n 2, 5, 0, 0, 0, 0, 2), (5, .ifCond .eq 15, 8, 20, 0, 0, 0, 0), (8, .iinc 1 1, 11, 0, 1, 0, 0, 0), (11, .iload_n 2, 12, 0, 0, 0, 0, 2), (12, .iload_n 2, 13, 0, 0, 0, 0, 2), (13, .iconst 1, 14, 0, 1, 0, 0, 0), (14, .isub, 15, 0, 0, 0, 0, 0), (15, .iand, 16, 0, 0, 0, 0, 0), (16, .istore_n 2, 17, 0, 0, 0, 0, 2), (17, .goto (-13), 20, 4, 0, 0, 0, 0), (20, .iload_n 1, 21, 0, 0, 0, 0, 1), (21, .ireturn, 22, 0, 0, 0, 0, 0)]
def tX7_feed : List E8 := [(0, .iload_n 1, 1, 0, 0, 0, 0, 1), (1, .i2l, 2, 0, 0, 0, 0, 0), (2, .lconst 0, 3, 0, 0, 0, 0, 0), (3, .ldc2_w 148, 6, 1196, 0, 255, 0, 0), (6, .invokestatic 89, 9, 1055, 0, 0, 0, 0), (9, .ifCond .ne 6, 12, 15, 0, 0, 0, 0), (12, .bipush (-2), 14, 0, (-2), 0, 0, 0), (14, .ireturn, 15, 0, 0, 0, 0, 0), (15, .aload_n 0, 16, 0, 0, 0, 0, 0), (16, .getfield 150, 19, 888, 0, 0, 6, 6), (19, .sipush 160, 22, 0, 160, 0, 0, 0), (22, .if_icmp .ne 6, 25, 28, 0, 0, 0, 0), (25, .bipush (-4), 27, 0, (-4), 0, 0, 0), (27, .ireturn, 28, 0, 0, 0, 0, 0), (28, .aload_n 0, 29, 0, 0, 0, 0, 0), (29, .getfield 20, 32, 887, 0, 0, 6, 5), (32, .aload_n 0, 33, 0, 0, 0, 0, 0), (33, .getfield 150, 36, 888, 0, 0, 6, 6), (36, .iload_n 1, 37, 0, 0, 0, 0, 1), (37, .iastore, 38, 0, 0, 0, 0, 0), (38, .aload_n 0, 39, 0, 0, 0, 0, 0), (39, .dup, 40, 0, 0, 0, 0, 0), (40, .getfield 150, 43, 888, 0, 0, 6, 6), (43, .iconst 1, 44, 0, 1, 0, 0, 0), (44, .iadd, 45, 0, 0, 0, 0, 0), (45, .putfield 150, 48, 888, 0, 0, 6, 6), (48, .aload_n 0, 49, 0, 0, 0, 0, 0), (49, .getfield 150, 52, 888, 0, 0, 6, 6), (52, .ireturn, 53, 0, 0, 0, 0, 0)]
def tX7_byteAt : List E8 := [(0, .iload_n 1, 1, 0, 0, 0, 0, 1), (1, .aload_n 0, 2, 0, 0, 0, 0, 0), (2, .getfield 153, 5, 904, 0, 0, 6, 22), (5, .if_icmp .ge 17, 8, 22, 0, 0, 0, 0), (8, .aload_n 0, 9, 0, 0, 0, 0, 0), (9, .getfield 13, 12, 883, 0, 0, 6, 1), (12, .aload_n 0, 13, 0, 0, 0, 0, 0), (13, .getfield 156, 16, 903, 0, 0, 6, 21), (16, .iload_n 1, 17, 0, 0, 0, 0, 1), (17, .iadd, 18, 0, 0, 0, 0, 0), (18, .iaload, 19, 0, 0, 0, 0, 0), (19, .goto 4, 22, 23, 0, 0, 0, 0), (22, .iconst (-1), 23, 0, (-1), 0, 0, 0), (23, .ireturn, 24, 0, 0, 0, 0, 0)]
def tX7_next : List E8 := [(0, .aload_n 0, 1, 0, 0, 0, 0, 0), (1, .aload_n 0, 2, 0, 0, 0, 0, 0), (2, .getfield 159, 5, 905, 0, 0, 6, 23), (5, .invokevirtual 162, 8, 1100, 0, 0, 0, 0), (8, .bipush 32, 10, 0, 32, 0, 0, 0), (10, .if_icmp .eq 16, 13, 26, 0, 0, 0, 0), (13, .aload_n 0, 14, 0, 0, 0, 0, 0), (14, .aload_n 0, 15, 0, 0, 0, 0, 0), (15, .getfield 159, 18, 905, 0, 0, 6, 23), (18, .invokevirtual 162, 21, 1100, 0, 0, 0, 0), (21, .bipush 10, 23, 0, 10, 0, 0, 0), (23, .if_icmp .ne 16, 26, 39, 0, 0, 0, 0), (26, .aload_n 0, 27, 0, 0, 0, 0, 0), (27, .dup, 28, 0, 0, 0, 0, 0), (28, .getfield 159, 31, 905, 0, 0, 6, 23), (31, .iconst 1, 32, 0, 1, 0, 0, 0), (32, .iadd, 33, 0, 0, 0, 0, 0), (33, .putfield 159, 36, 905, 0, 0, 6, 23), (36, .goto (-36), 39, 0, 0, 0, 0, 0), (39, .aload_n 0, 40, 0, 0, 0, 0, 0), (40, .aload_n 0, 41, 0, 0, 0, 0, 0), (41, .getfield 159, 44, 905, 0, 0, 6, 23), (44, .putfield 165, 47, 907, 0, 0, 6, 25), (47, .aload_n 0, 48, 0, 0, 0, 0, 0), (48, .aload_n 0, 49, 0, 0, 0, 0, 0), (49, .getfield 159, 52, 905, 0, 0, 6, 23), (52, .invokevirtual 162, 55, 1100, 0, 0, 0, 0), (55, .istore_n 1, 56, 0, 0, 0, 0, 1), (56, .aload_n 0, 57, 0, 0, 0, 0, 0), (57, .iconst 4, 58, 0, 4, 0, 0, 0), (58, .putfield 168, 61, 906, 0, 0, 6, 24), (61, .iload_n 1, 62, 0, 0, 0, 0, 1), (62, .ifCond .ge 19, 65, 81, 0, 0, 0, 0), (65, .aload_n 0, 66, 0, 0, 0, 0, 0), (66, .iconst 0, 67, 0, 0, 0, 0, 0), (67, .putfield 168, 70, 906, 0, 0, 6, 24), (70, .aload_n 0, 71, 0, 0, 0, 0, 0), (71, .aload_n 0, 72, 0, 0, 0, 0, 0), (72, .getfield 153, 75, 904, 0, 0, 6, 22), (75, .putfield 165, 78, 907, 0, 0, 6, 25), (78, .goto 243, 81, 321, 0, 0, 0, 0), (81, .iload_n 1, 82, 0, 0, 0, 0, 1), (82, .i2l, 83, 0, 0, 0, 0, 0), (83, .ldc2_w 171, 86, 1104, 0, 97, 0, 0), (86, .ldc2_w 173, 89, 1105, 0, 122, 0, 0), (89, .invokestatic 89, 92, 1055, 0, 0, 0, 0), (92, .ifCond .eq 42, 95, 134, 0, 0, 0, 0), (95, .aload_n 0, 96, 0, 0, 0, 0, 0), (96, .iconst 1, 97, 0, 1, 0, 0, 0), (97, .putfield 168, 100, 906, 0, 0, 6, 24), (100, .aload_n 0, 101, 0, 0, 0, 0, 0), (101, .aload_n 0, 102, 0, 0, 0, 0, 0), (102, .getfield 159, 105, 905, 0, 0, 6, 23), (105, .invokevirtual 162, 108, 1100, 0, 0, 0, 0), (108, .i2l, 109, 0, 0, 0, 0, 0), (109, .ldc2_w 171, 112, 1104, 0, 97, 0, 0), (112, .ldc2_w 173, 115, 1105, 0, 122, 0, 0), (115, .invokestatic 89, 118, 1055, 0, 0, 0, 0), (118, .ifCond .eq 203, 121, 321, 0, 0, 0, 0), (121, .aload_n 0, 122, 0, 0, 0, 0, 0), (122, .dup, 123, 0, 0, 0, 0, 0), (123, .getfield 159, 126, 905, 0, 0, 6, 23), (126, .iconst 1, 127, 0, 1, 0, 0, 0), (127, .iadd, 128, 0, 0, 0, 0, 0), (128, .putfield 159, 131, 905, 0, 0, 6, 23), (131, .goto (-31), 134, 100, 0, 0, 0, 0), (134, .iload_n 1, 135, 0, 0, 0, 0, 1), (135, .i2l, 136, 0, 0, 0, 0, 0), (136, .ldc2_w 175, 139, 1106, 0, 48, 0, 0), (139, .ldc2_w 177, 142, 1107, 0, 57, 0, 0), (142, .invokestatic 89, 145, 1055, 0, 0, 0, 0), (145, .ifCond .eq 107, 148, 252, 0, 0, 0, 0), (148, .aload_n 0, 149, 0, 0, 0, 0, 0), (149, .iconst 2, 150, 0, 2, 0, 0, 0), (150, .putfield 168, 153, 906, 0, 0, 6, 24), (153, .aload_n 0, 154, 0, 0, 0, 0, 0), (154, .lconst 0, 155, 0, 0, 0, 0, 0), (155, .putfield 179, 158, 908, 0, 0, 6, 26), (158, .iconst 0, 159, 0, 0, 0, 0, 0), (159, .istore_n 2, 160, 0, 0, 0, 0, 2), (160, .aload_n 0, 161, 0, 0, 0, 0, 0), (161, .aload_n 0, 162, 0, 0, 0, 0, 0), (162, .getfield 159, 165, 905, 0, 0, 6, 23), (165, .invokevirtual 162, 168, 1100, 0, 0, 0, 0), (168, .i2l, 169, 0, 0, 0, 0, 0), (169, .ldc2_w 175, 172, 1106, 0, 48, 0, 0), (172, .ldc2_w 177, 175, 1107, 0, 57, 0, 0), (175, .invokestatic 89, 178, 1055, 0, 0, 0, 0), (178, .ifCond .eq 57, 181, 235, 0, 0, 0, 0), (181, .aload_n 0, 182, 0, 0, 0, 0, 0), (182, .iload_n 2, 183, 0, 0, 0, 0, 2), (183, .iconst 4, 184, 0, 4, 0, 0, 0), (184, .if_icmp .ge 28, 187, 212, 0, 0, 0, 0), (187, .ldc2_w 126, 190, 1069, 0, 10, 0, 0), (190, .aload_n 0, 191, 0, 0, 0, 0, 0), (191, .getfield 179, 194, 908, 0, 0, 6, 26), (194, .lmul, 195, 0, 0, 0, 0, 0), (195, .aload_n 0, 196, 0, 0, 0, 0, 0), (196, .aload_n 0, 197, 0, 0, 0, 0, 0), (197, .getfield 159, 200, 905, 0, 0, 6, 23), (200, .invokevirtual 162, 203, 1100, 0, 0, 0, 0), (203, .i2l, 204, 0, 0, 0, 0, 0), (204, .ladd, 205, 0, 0, 0, 0, 0), (205, .ldc2_w 175, 208, 1106, 0, 48, 0, 0), (208, .lsub, 209, 0, 0, 0, 0, 0), (209, .goto 7, 212, 216, 0, 0, 0, 0), (212, .aload_n 0, 213, 0, 0, 0, 0, 0), (213, .getfield 179, 216, 908, 0, 0, 6, 26), (216, .putfield 179, 219, 908, 0, 0, 6, 26), (219, .iinc 2 1, 222, 0, 1, 0, 0, 0), (222, .aload_n 0, 223, 0, 0, 0, 0, 0), (223, .dup, 224, 0, 0, 0, 0, 0), (224, .getfield 159, 227, 905, 0, 0, 6, 23), (227, .iconst 1, 228, 0, 1, 0, 0, 0), (228, .iadd, 229, 0, 0, 0, 0, 0), (229, .putfield 159, 232, 905, 0, 0, 6, 23), (232, .goto (-72), 235, 160, 0, 0, 0, 0), (235, .aload_n 0, 236, 0, 0, 0, 0, 0), (236, .iload_n 2, 237, 0, 0, 0, 0, 2), (237, .iconst 4, 238, 0, 4, 0, 0, 0), (238, .if_icmp .le 7, 241, 245, 0, 0, 0, 0), (241, .iconst 4, 242, 0, 4, 0, 0, 0), (242, .goto 4, 245, 246, 0, 0, 0, 0), (245, .iconst 2, 246, 0, 2, 0, 0, 0), (246, .putfield 168, 249, 906, 0, 0, 6, 24), (249, .goto 72, 252, 321, 0, 0, 0, 0), (252, .iload_n 1, 253, 0, 0, 0, 0, 1), (253, .bipush 40, 255, 0, 40, 0, 0, 0), (255, .if_icmp .eq 45, 258, 300, 0, 0, 0, 0), (258, .iload_n 1, 259, 0, 0, 0, 0, 1), (259, .bipush 41, 261, 0, 41, 0, 0, 0), (261, .if_icmp .eq 39, 264, 300, 0, 0, 0, 0), (264, .iload_n 1, 265, 0, 0, 0, 0, 1), (265, .bipush 59, 267, 0, 59, 0, 0, 0), (267, .if_icmp .eq 33, 270, 300, 0, 0, 0, 0), (270, .iload_n 1, 271, 0, 0, 0, 0, 1), (271, .bipush 43, 273, 0, 43, 0, 0, 0), (273, .if_icmp .eq 27, 276, 300, 0, 0, 0, 0), (276, .iload_n 1, 277, 0, 0, 0, 0, 1), (277, .bipush 45, 279, 0, 45, 0, 0, 0), (279, .if_icmp .eq 21, 282, 300, 0, 0, 0, 0), (282, .iload_n 1, 283, 0, 0, 0, 0, 1), (283, .bipush 42, 285, 0, 42, 0, 0, 0), (285, .if_icmp .eq 15, 288, 300, 0, 0, 0, 0), (288, .iload_n 1, 289, 0, 0, 0, 0, 1), (289, .bipush 60, 291, 0, 60, 0, 0, 0), (291, .if_icmp .eq 9, 294, 300, 0, 0, 0, 0), (294, .iload_n 1, 295, 0, 0, 0, 0, 1), (295, .bipush 61, 297, 0, 61, 0, 0, 0), (297, .if_icmp .ne 24, 300, 321, 0, 0, 0, 0), (300, .aload_n 0, 301, 0, 0, 0, 0, 0), (301, .iconst 3, 302, 0, 3, 0, 0, 0), (302, .putfield 168, 305, 906, 0, 0, 6, 24), (305, .aload_n 0, 306, 0, 0, 0, 0, 0), (306, .iload_n 1, 307, 0, 0, 0, 0, 1), (307, .i2l, 308, 0, 0, 0, 0, 0), (308, .putfield 179, 311, 908, 0, 0, 6, 26), (311, .aload_n 0, 312, 0, 0, 0, 0, 0), (312, .dup, 313, 0, 0, 0, 0, 0), (313, .getfield 159, 316, 905, 0, 0, 6, 23), (316, .iconst 1, 317, 0, 1, 0, 0, 0), (317, .iadd, 318, 0, 0, 0, 0, 0), (318, .putfield 159, 321, 905, 0, 0, 6, 23), (321, .return_, 322, 0, 0, 0, 0, 0)]
def tX7_fail : List E8 := [(0, .aload_n 0, 1, 0, 0, 0, 0, 0), (1, .getfield 183, 4, 910, 0, 0, 6, 28), (4, .ifCond .ne 16, 7, 20, 0, 0, 0, 0), (7, .aload_n 0, 8, 0, 0, 0, 0, 0), (8, .iconst 1, 9, 0, 1, 0, 0, 0), (9, .putfield 183, 12, 910, 0, 0, 6, 28), (12, .aload_n 0, 13, 0, 0, 0, 0, 0), (13, .aload_n 0, 14, 0, 0, 0, 0, 0), (14, .getfield 165, 17, 907, 0, 0, 6, 25), (17, .putfield 187, 20, 911, 0, 0, 6, 29), (20, .return_, 21, 0, 0, 0, 0, 0)]
def tX7_isLetter : List E8 := [(0, .aload_n 0, 1, 0, 0, 0, 0, 0), (1, .getfield 165, 4, 907, 0, 0, 6, 25), (4, .iload_n 1, 5, 0, 0, 0, 0, 1), (5, .iadd, 6, 0, 0, 0, 0, 0), (6, .aload_n 0, 7, 0, 0, 0, 0, 0), (7, .getfield 159, 10, 905, 0, 0, 6, 23), (10, .if_icmp .ge 25, 13, 35, 0, 0, 0, 0), (13, .aload_n 0, 14, 0, 0, 0, 0, 0), (14, .aload_n 0, 15, 0, 0, 0, 0, 0), (15, .getfield 165, 18, 907, 0, 0, 6, 25), (18, .iload_n 1, 19, 0, 0, 0, 0, 1), (19, .iadd, 20, 0, 0, 0, 0, 0), (20, .invokevirtual 162, 23, 1100, 0, 0, 0, 0), (23, .iload_n 2, 24, 0, 0, 0, 0, 2), (24, .if_icmp .ne 7, 27, 31, 0, 0, 0, 0), (27, .iconst 1, 28, 0, 1, 0, 0, 0), (28, .goto 16, 31, 44, 0, 0, 0, 0), (31, .iconst 0, 32, 0, 0, 0, 0, 0), (32, .goto 12, 35, 44, 0, 0, 0, 0), (35, .iload_n 2, 36, 0, 0, 0, 0, 2), (36, .ifCond .ne 7, 39, 43, 0, 0, 0, 0), (39, .iconst 1, 40, 0, 1, 0, 0, 0), (40, .goto 4, 43, 44, 0, 0, 0, 0), (43, .iconst 0, 44, 0, 0, 0, 0, 0), (44, .ireturn, 45, 0, 0, 0, 0, 0)]
def tX7_isWord : List E8 := [(0, .aload_n 0, 1, 0, 0, 0, 0, 0), (1, .getfield 183, 4, 910, 0, 0, 6, 28), (4, .ifCond .ne 108, 7, 112, 0, 0, 0, 0), (7, .aload_n 0, 8, 0, 0, 0, 0, 0), (8, .getfield 168, 11, 906, 0, 0, 6, 24), (11, .iconst 1, 12, 0, 1, 0, 0, 0), (12, .if_icmp .ne 100, 15, 112, 0, 0, 0, 0), (15, .aload_n 0, 16, 0, 0, 0, 0, 0), (16, .getfield 159, 19, 905, 0, 0, 6, 23), (19, .aload_n 0, 20, 0, 0, 0, 0, 0), (20, .getfield 165, 23, 907, 0, 0, 6, 25), (23, .bipush 8, 25, 0, 8, 0, 0, 0), (25, .iadd, 26, 0, 0, 0, 0, 0), (26, .if_icmp .gt 86, 29, 112, 0, 0, 0, 0), (29, .aload_n 0, 30, 0, 0, 0, 0, 0), (30, .iconst 0, 31, 0, 0, 0, 0, 0), (31, .iload_n 1, 32, 0, 0, 0, 0, 1), (32, .invokevirtual 190, 35, 1112, 0, 0, 0, 0), (35, .ifCond .eq 77, 38, 112, 0, 0, 0, 0), (38, .aload_n 0, 39, 0, 0, 0, 0, 0), (39, .iconst 1, 40, 0, 1, 0, 0, 0), (40, .iload_n 2, 41, 0, 0, 0, 0, 2), (41, .invokevirtual 190, 44, 1112, 0, 0, 0, 0), (44, .ifCond .eq 68, 47, 112, 0, 0, 0, 0), (47, .aload_n 0, 48, 0, 0, 0, 0, 0), (48, .iconst 2, 49, 0, 2, 0, 0, 0), (49, .iload_n 3, 50, 0, 0, 0, 0, 3), (50, .invokevirtual 190, 53, 1112, 0, 0, 0, 0), (53, .ifCond .eq 59, 56, 112, 0, 0, 0, 0), (56, .aload_n 0, 57, 0, 0, 0, 0, 0), (57, .iconst 3, 58, 0, 3, 0, 0, 0), (58, .iload 4, 60, 0, 0, 0, 0, 4), (60, .invokevirtual 190, 63, 1112, 0, 0, 0, 0), (63, .ifCond .eq 49, 66, 112, 0, 0, 0, 0), (66, .aload_n 0, 67, 0, 0, 0, 0, 0), (67, .iconst 4, 68, 0, 4, 0, 0, 0), (68, .iload 5, 70, 0, 0, 0, 0, 5), (70, .invokevirtual 190, 73, 1112, 0, 0, 0, 0), (73, .ifCond .eq 39, 76, 112, 0, 0, 0, 0), (76, .aload_n 0, 77, 0, 0, 0, 0, 0), (77, .iconst 5, 78, 0, 5, 0, 0, 0), (78, .iload 6, 80, 0, 0, 0, 0, 6), (80, .invokevirtual 190, 83, 1112, 0, 0, 0, 0), (83, .ifCond .eq 29, 86, 112, 0, 0, 0, 0), (86, .aload_n 0, 87, 0, 0, 0, 0, 0), (87, .bipush 6, 89, 0, 6, 0, 0, 0), (89, .iload 7, 91, 0, 0, 0, 0, 7), (91, .invokevirtual 190, 94, 1112, 0, 0, 0, 0), (94, .ifCond .eq 18, 97, 112, 0, 0, 0, 0), (97, .aload_n 0, 98, 0, 0, 0, 0, 0), (98, .bipush 7, 100, 0, 7, 0, 0, 0), (100, .iload 8, 102, 0, 0, 0, 0, 8), (102, .invokevirtual 190, 105, 1112, 0, 0, 0, 0), (105, .ifCond .eq 7, 108, 112, 0, 0, 0, 0), (108, .iconst 1, 109, 0, 1, 0, 0, 0), (109, .goto 4, 112, 113, 0, 0, 0, 0), (112, .iconst 0, 113, 0, 0, 0, 0, 0), (113, .ireturn, 114, 0, 0, 0, 0, 0)]
def tX7_isSign : List E8 := [(0, .aload_n 0, 1, 0, 0, 0, 0, 0), (1, .getfield 183, 4, 910, 0, 0, 6, 28), (4, .ifCond .ne 25, 7, 29, 0, 0, 0, 0), (7, .aload_n 0, 8, 0, 0, 0, 0, 0), (8, .getfield 168, 11, 906, 0, 0, 6, 24), (11, .iconst 3, 12, 0, 3, 0, 0, 0), (12, .if_icmp .ne 17, 15, 29, 0, 0, 0, 0), (15, .aload_n 0, 16, 0, 0, 0, 0, 0), (16, .getfield 179, 19, 908, 0, 0, 6, 26), (19, .iload_n 1, 20, 0, 0, 0, 0, 1), (20, .i2l, 21, 0, 0, 0, 0, 0), (21, .lcmp, 22, 0, 0, 0, 0, 0), (22, .ifCond .ne 7, 25, 29, 0, 0, 0, 0), (25, .iconst 1, 26, 0, 1, 0, 0, 0), (26, .goto 4, 29, 30, 0, 0, 0, 0), (29, .iconst 0, 30, 0, 0, 0, 0, 0), (30, .ireturn, 31, 0, 0, 0, 0, 0)]
def tX7_opens : List E8 := [(0, .aload_n 0, 1, 0, 0, 0, 0, 0), (1, .getfield 194, 4, 909, 0, 0, 6, 27), (4, .iconst 5, 5, 0, 5, 0, 0, 0), (5, .if_icmp .ne 9, 8, 14, 0, 0, 0, 0), (8, .aload_n 0, 9, 0, 0, 0, 0, 0), (9, .invokevirtual 197, 12, 1120, 0, 0, 0, 0), (12, .iconst 0, 13, 0, 0, 0, 0, 0), (13, .ireturn, 14, 0, 0, 0, 0, 0), (14, .aload_n 0, 15, 0, 0, 0, 0, 0), (15, .dup, 16, 0, 0, 0, 0, 0), (16, .getfield 194, 19, 909, 0, 0, 6, 27), (19, .iconst 1, 20, 0, 1, 0, 0, 0), (20, .iadd, 21, 0, 0, 0, 0, 0), (21, .putfield 194, 24, 909, 0, 0, 6, 27), (24, .aload_n 0, 25, 0, 0, 0, 0, 0), (25, .invokevirtual 200, 28, 1096, 0, 0, 0, 0), (28, .iconst 1, 29, 0, 1, 0, 0, 0), (29, .ireturn, 30, 0, 0, 0, 0, 0)]
def tX7_name : List E8 := [(0, .aload_n 0, 1, 0, 0, 0, 0, 0), (1, .bipush 110, 3, 0, 110, 0, 0, 0), (3, .bipush 117, 5, 0, 117, 0, 0, 0), (5, .bipush 109, 7, 0, 109, 0, 0, 0), (7, .bipush 98, 9, 0, 98, 0, 0, 0), (9, .bipush 101, 11, 0, 101, 0, 0, 0), (11, .bipush 114, 13, 0, 114, 0, 0, 0), (13, .iconst 0, 14, 0, 0, 0, 0, 0), (14, .iconst 0, 15, 0, 0, 0, 0, 0), (15, .invokevirtual 203, 18, 1108, 0, 0, 0, 0), (18, .ifCond .eq 8, 21, 26, 0, 0, 0, 0), (21, .aload_n 0, 22, 0, 0, 0, 0, 0), (22, .getfield 207, 25, 897, 0, 0, 6, 15), (25, .ireturn, 26, 0, 0, 0, 0, 0), (26, .aload_n 0, 27, 0, 0, 0, 0, 0), (27, .bipush 98, 29, 0, 98, 0, 0, 0), (29, .bipush 114, 31, 0, 114, 0, 0, 0), (31, .bipush 105, 33, 0, 105, 0, 0, 0), (33, .bipush 98, 35, 0, 98, 0, 0, 0), (35, .bipush 101, 37, 0, 101, 0, 0, 0), (37, .iconst 0, 38, 0, 0, 0, 0, 0), (38, .iconst 0, 39, 0, 0, 0, 0, 0), (39, .iconst 0, 40, 0, 0, 0, 0, 0), (40, .invokevirtual 203, 43, 1108, 0, 0, 0, 0), (43, .ifCond .eq 8, 46, 51, 0, 0, 0, 0), (46, .aload_n 0, 47, 0, 0, 0, 0, 0), (47, .getfield 210, 50, 898, 0, 0, 6, 16), (50, .ireturn, 51, 0, 0, 0, 0, 0), (51, .aload_n 0, 52, 0, 0, 0, 0, 0), (52, .bipush 115, 54, 0, 115, 0, 0, 0), (54, .bipush 105, 56, 0, 105, 0, 0, 0), (56, .bipush 116, 58, 0, 116, 0, 0, 0), (58, .bipush 116, 60, 0, 116, 0, 0, 0), (60, .bipush 105, 62, 0, 105, 0, 0, 0), (62, .bipush 110, 64, 0, 110, 0, 0, 0), (64, .bipush 103, 66, 0, 103, 0, 0, 0), (66, .iconst 0, 67, 0, 0, 0, 0, 0), (67, .invokevirtual 203, 70, 1108, 0, 0, 0, 0), (70, .ifCond .eq 8, 73, 78, 0, 0, 0, 0), (73, .aload_n 0, 74, 0, 0, 0, 0, 0), (74, .getfield 213, 77, 899, 0, 0, 6, 17), (77, .ireturn, 78, 0, 0, 0, 0, 0), (78, .aload_n 0, 79, 0, 0, 0, 0, 0), (79, .bipush 114, 81, 0, 114, 0, 0, 0), (81, .bipush 101, 83, 0, 101, 0, 0, 0), (83, .bipush 97, 85, 0, 97, 0, 0, 0), (85, .bipush 100, 87, 0, 100, 0, 0, 0), (87, .iconst 0, 88, 0, 0, 0, 0, 0), (88, .iconst 0, 89, 0, 0, 0, 0, 0), (89, .iconst 0, 90, 0, 0, 0, 0, 0), (90, .iconst 0, 91, 0, 0, 0, 0, 0), (91, .invokevirtual 203, 94, 1108, 0, 0, 0, 0), (94, .ifCond .eq 8, 97, 102, 0, 0, 0, 0), (97, .aload_n 0, 98, 0, 0, 0, 0, 0), (98, .getfield 216, 101, 900, 0, 0, 6, 18), (101, .ireturn, 102, 0, 0, 0, 0, 0), (102, .aload_n 0, 103, 0, 0, 0, 0, 0), (103, .bipush 114, 105, 0, 114, 0, 0, 0), (105, .bipush 97, 107, 0, 97, 0, 0, 0), (107, .bipush 110, 109, 0, 110, 0, 0, 0), (109, .bipush 107, 111, 0, 107, 0, 0, 0), (111, .iconst 0, 112, 0, 0, 0, 0, 0), (112, .iconst 0, 113, 0, 0, 0, 0, 0), (113, .iconst 0, 114, 0, 0, 0, 0, 0), (114, .iconst 0, 115, 0, 0, 0, 0, 0), (115, .invokevirtual 203, 118, 1108, 0, 0, 0, 0), (118, .ifCond .eq 8, 121, 126, 0, 0, 0, 0), (121, .aload_n 0, 122, 0, 0, 0, 0, 0), (122, .getfield 219, 125, 901, 0, 0, 6, 19), (125, .ireturn, 126, 0, 0, 0, 0, 0), (126, .aload_n 0, 127, 0, 0, 0, 0, 0), (127, .bipush 97, 129, 0, 97, 0, 0, 0), (129, .bipush 115, 131, 0, 115, 0, 0, 0), (131, .bipush 107, 133, 0, 107, 0, 0, 0), (133, .bipush 101, 135, 0, 101, 0, 0, 0), (135, .bipush 100, 137, 0, 100, 0, 0, 0), (137, .iconst 0, 138, 0, 0, 0, 0, 0), (138, .iconst 0, 139, 0, 0, 0, 0, 0), (139, .iconst 0, 140, 0, 0, 0, 0, 0), (140, .invokevirtual 203, 143, 1108, 0, 0, 0, 0), (143, .ifCond .eq 8, 146, 151, 0, 0, 0, 0), (146, .aload_n 0, 147, 0, 0, 0, 0, 0), (147, .getfield 222, 150, 902, 0, 0, 6, 20), (150, .ireturn, 151, 0, 0, 0, 0, 0), (151, .aload_n 0, 152, 0, 0, 0, 0, 0), (152, .invokevirtual 197, 155, 1120, 0, 0, 0, 0), (155, .iconst 0, 156, 0, 0, 0, 0, 0), (156, .ireturn, 157, 0, 0, 0, 0, 0)]
def tX7_atom : List E8 := [(0, .iconst 0, 1, 0, 0, 0, 0, 0), (1, .istore_n 1, 2, 0, 0, 0, 0, 1), (2, .aload_n 0, 3, 0, 0, 0, 0, 0), (3, .bipush 45, 5, 0, 45, 0, 0, 0), (5, .invokevirtual 225, 8, 1152, 0, 0, 0, 0), (8, .ifCond .eq 29, 11, 37, 0, 0, 0, 0), (11, .aload_n 0, 12, 0, 0, 0, 0, 0), (12, .invokevirtual 228, 15, 1136, 0, 0, 0, 0), (15, .ifCond .eq 146, 18, 161, 0, 0, 0, 0), (18, .aload_n 0, 19, 0, 0, 0, 0, 0), (19, .invokevirtual 232, 22, 1148, 0, 0, 0, 0), (22, .ineg, 23, 0, 0, 0, 0, 0), (23, .istore_n 1, 24, 0, 0, 0, 0, 1), (24, .aload_n 0, 25, 0, 0, 0, 0, 0), (25, .dup, 26, 0, 0, 0, 0, 0), (26, .getfield 194, 29, 909, 0, 0, 6, 27), (29, .iconst 1, 30, 0, 1, 0, 0, 0), (30, .isub, 31, 0, 0, 0, 0, 0), (31, .putfield 194, 34, 909, 0, 0, 6, 27), (34, .goto 127, 37, 161, 0, 0, 0, 0), (37, .aload_n 0, 38, 0, 0, 0, 0, 0), (38, .bipush 40, 40, 0, 40, 0, 0, 0), (40, .invokevirtual 225, 43, 1152, 0, 0, 0, 0), (43, .ifCond .eq 52, 46, 95, 0, 0, 0, 0), (46, .aload_n 0, 47, 0, 0, 0, 0, 0), (47, .invokevirtual 228, 50, 1136, 0, 0, 0, 0), (50, .ifCond .eq 111, 53, 161, 0, 0, 0, 0), (53, .aload_n 0, 54, 0, 0, 0, 0, 0), (54, .invokevirtual 235, 57, 1124, 0, 0, 0, 0), (57, .istore_n 1, 58, 0, 0, 0, 0, 1), (58, .aload_n 0, 59, 0, 0, 0, 0, 0), (59, .bipush 41, 61, 0, 41, 0, 0, 0), (61, .invokevirtual 225, 64, 1152, 0, 0, 0, 0), (64, .ifCond .ne 7, 67, 71, 0, 0, 0, 0), (67, .aload_n 0, 68, 0, 0, 0, 0, 0), (68, .invokevirtual 197, 71, 1120, 0, 0, 0, 0), (71, .aload_n 0, 72, 0, 0, 0, 0, 0), (72, .dup, 73, 0, 0, 0, 0, 0), (73, .getfield 194, 76, 909, 0, 0, 6, 27), (76, .iconst 1, 77, 0, 1, 0, 0, 0), (77, .isub, 78, 0, 0, 0, 0, 0), (78, .putfield 194, 81, 909, 0, 0, 6, 27), (81, .aload_n 0, 82, 0, 0, 0, 0, 0), (82, .getfield 183, 85, 910, 0, 0, 6, 28), (85, .ifCond .ne 76, 88, 161, 0, 0, 0, 0), (88, .aload_n 0, 89, 0, 0, 0, 0, 0), (89, .invokevirtual 200, 92, 1096, 0, 0, 0, 0), (92, .goto 69, 95, 161, 0, 0, 0, 0), (95, .aload_n 0, 96, 0, 0, 0, 0, 0), (96, .getfield 183, 99, 910, 0, 0, 6, 28), (99, .ifCond .ne 24, 102, 123, 0, 0, 0, 0), (102, .aload_n 0, 103, 0, 0, 0, 0, 0), (103, .getfield 168, 106, 906, 0, 0, 6, 24), (106, .iconst 2, 107, 0, 2, 0, 0, 0), (107, .if_icmp .ne 16, 110, 123, 0, 0, 0, 0), (110, .aload_n 0, 111, 0, 0, 0, 0, 0), (111, .getfield 179, 114, 908, 0, 0, 6, 26), (114, .l2i, 115, 0, 0, 0, 0, 0), (115, .istore_n 1, 116, 0, 0, 0, 0, 1), (116, .aload_n 0, 117, 0, 0, 0, 0, 0), (117, .invokevirtual 200, 120, 1096, 0, 0, 0, 0), (120, .goto 41, 123, 161, 0, 0, 0, 0), (123, .aload_n 0, 124, 0, 0, 0, 0, 0), (124, .getfield 183, 127, 910, 0, 0, 6, 28), (127, .ifCond .ne 30, 130, 157, 0, 0, 0, 0), (130, .aload_n 0, 131, 0, 0, 0, 0, 0), (131, .getfield 168, 134, 906, 0, 0, 6, 24), (134, .iconst 1, 135, 0, 1, 0, 0, 0), (135, .if_icmp .ne 22, 138, 157, 0, 0, 0, 0), (138, .aload_n 0, 139, 0, 0, 0, 0, 0), (139, .invokevirtual 238, 142, 1156, 0, 0, 0, 0), (142, .istore_n 1, 143, 0, 0, 0, 0, 1), (143, .aload_n 0, 144, 0, 0, 0, 0, 0), (144, .getfield 183, 147, 910, 0, 0, 6, 28), (147, .ifCond .ne 14, 150, 161, 0, 0, 0, 0), (150, .aload_n 0, 151, 0, 0, 0, 0, 0), (151, .invokevirtual 200, 154, 1096, 0, 0, 0, 0), (154, .goto 7, 157, 161, 0, 0, 0, 0), (157, .aload_n 0, 158, 0, 0, 0, 0, 0), (158, .invokevirtual 197, 161, 1120, 0, 0, 0, 0), (161, .iload_n 1, 162, 0, 0, 0, 0, 1), (162, .ireturn, 163, 0, 0, 0, 0, 0)]
def tX7_term : List E8 := [(0, .aload_n 0, 1, 0, 0, 0, 0, 0), (1, .invokevirtual 232, 4, 1148, 0, 0, 0, 0), (4, .istore_n 1, 5, 0, 0, 0, 0, 1), (5, .aload_n 0, 6, 0, 0, 0, 0, 0), (6, .bipush 42, 8, 0, 42, 0, 0, 0), (8, .invokevirtual 225, 11, 1152, 0, 0, 0, 0), (11, .ifCond .eq 17, 14, 28, 0, 0, 0, 0), (14, .aload_n 0, 15, 0, 0, 0, 0, 0), (15, .invokevirtual 200, 18, 1096, 0, 0, 0, 0), (18, .iload_n 1, 19, 0, 0, 0, 0, 1), (19, .aload_n 0, 20, 0, 0, 0, 0, 0), (20, .invokevirtual 232, 23, 1148, 0, 0, 0, 0), (23, .imul, 24, 0, 0, 0, 0, 0), (24, .istore_n 1, 25, 0, 0, 0, 0, 1), (25, .goto (-20), 28, 5, 0, 0, 0, 0), (28, .iload_n 1, 29, 0, 0, 0, 0, 1), (29, .ireturn, 30, 0, 0, 0, 0, 0)]
def tX7_added : List E8 := [(0, .aload_n 0, 1, 0, 0, 0, 0, 0), (1, .invokevirtual 241, 4, 1144, 0, 0, 0, 0), (4, .istore_n 1, 5, 0, 0, 0, 0, 1), (5, .aload_n 0, 6, 0, 0, 0, 0, 0), (6, .bipush 43, 8, 0, 43, 0, 0, 0), (8, .invokevirtual 225, 11, 1152, 0, 0, 0, 0), (11, .ifCond .ne 12, 14, 23, 0, 0, 0, 0), (14, .aload_n 0, 15, 0, 0, 0, 0, 0), (15, .bipush 45, 17, 0, 45, 0, 0, 0), (17, .invokevirtual 225, 20, 1152, 0, 0, 0, 0), (20, .ifCond .eq 46, 23, 66, 0, 0, 0, 0), (23, .aload_n 0, 24, 0, 0, 0, 0, 0), (24, .getfield 179, 27, 908, 0, 0, 6, 26), (27, .ldc2_w 244, 30, 1160, 0, 43, 0, 0), (30, .lcmp, 31, 0, 0, 0, 0, 0), (31, .ifCond .ne 7, 34, 38, 0, 0, 0, 0), (34, .iconst 1, 35, 0, 1, 0, 0, 0), (35, .goto 4, 38, 39, 0, 0, 0, 0), (38, .iconst 0, 39, 0, 0, 0, 0, 0), (39, .istore_n 2, 40, 0, 0, 0, 0, 2), (40, .aload_n 0, 41, 0, 0, 0, 0, 0), (41, .invokevirtual 200, 44, 1096, 0, 0, 0, 0), (44, .aload_n 0, 45, 0, 0, 0, 0, 0), (45, .invokevirtual 241, 48, 1144, 0, 0, 0, 0), (48, .istore_n 3, 49, 0, 0, 0, 0, 3), (49, .iload_n 2, 50, 0, 0, 0, 0, 2), (50, .ifCond .eq 9, 53, 59, 0, 0, 0, 0), (53, .iload_n 1, 54, 0, 0, 0, 0, 1), (54, .iload_n 3, 55, 0, 0, 0, 0, 3), (55, .iadd, 56, 0, 0, 0, 0, 0), (56, .goto 6, 59, 62, 0, 0, 0, 0), (59, .iload_n 1, 60, 0, 0, 0, 0, 1), (60, .iload_n 3, 61, 0, 0, 0, 0, 3), (61, .isub, 62, 0, 0, 0, 0, 0), (62, .istore_n 1, 63, 0, 0, 0, 0, 1), (63, .goto (-58), 66, 5, 0, 0, 0, 0), (66, .iload_n 1, 67, 0, 0, 0, 0, 1), (67, .ireturn, 68, 0, 0, 0, 0, 0)]
def tX7_not : List E8 := [(0, .aload_n 0, 1, 0, 0, 0, 0, 0), (1, .bipush 110, 3, 0, 110, 0, 0, 0), (3, .bipush 111, 5, 0, 111, 0, 0, 0), (5, .bipush 116, 7, 0, 116, 0, 0, 0), (7, .iconst 0, 8, 0, 0, 0, 0, 0), (8, .iconst 0, 9, 0, 0, 0, 0, 0), (9, .iconst 0, 10, 0, 0, 0, 0, 0), (10, .iconst 0, 11, 0, 0, 0, 0, 0), (11, .iconst 0, 12, 0, 0, 0, 0, 0), (12, .invokevirtual 203, 15, 1108, 0, 0, 0, 0), (15, .ifCond .eq 37, 18, 52, 0, 0, 0, 0), (18, .aload_n 0, 19, 0, 0, 0, 0, 0), (19, .invokevirtual 228, 22, 1136, 0, 0, 0, 0), (22, .ifCond .ne 5, 25, 27, 0, 0, 0, 0), (25, .iconst 0, 26, 0, 0, 0, 0, 0), (26, .ireturn, 27, 0, 0, 0, 0, 0), (27, .aload_n 0, 28, 0, 0, 0, 0, 0), (28, .invokevirtual 246, 31, 1132, 0, 0, 0, 0), (31, .istore_n 1, 32, 0, 0, 0, 0, 1), (32, .aload_n 0, 33, 0, 0, 0, 0, 0), (33, .dup, 34, 0, 0, 0, 0, 0), (34, .getfield 194, 37, 909, 0, 0, 6, 27), (37, .iconst 1, 38, 0, 1, 0, 0, 0), (38, .isub, 39, 0, 0, 0, 0, 0), (39, .putfield 194, 42, 909, 0, 0, 6, 27), (42, .iload_n 1, 43, 0, 0, 0, 0, 1), (43, .ifCond .ne 7, 46, 50, 0, 0, 0, 0), (46, .iconst 1, 47, 0, 1, 0, 0, 0), (47, .goto 4, 50, 51, 0, 0, 0, 0), (50, .iconst 0, 51, 0, 0, 0, 0, 0), (51, .ireturn, 52, 0, 0, 0, 0, 0), (52, .aload_n 0, 53, 0, 0, 0, 0, 0), (53, .invokevirtual 249, 56, 1140, 0, 0, 0, 0), (56, .istore_n 1, 57, 0, 0, 0, 0, 1), (57, .aload_n 0, 58, 0, 0, 0, 0, 0), (58, .bipush 60, 60, 0, 60, 0, 0, 0), (60, .invokevirtual 225, 63, 1152, 0, 0, 0, 0), (63, .ifCond .ne 14, 66, 77, 0, 0, 0, 0), (66, .aload_n 0, 67, 0, 0, 0, 0, 0), (67, .bipush 61, 69, 0, 61, 0, 0, 0), (69, .invokevirtual 225, 72, 1152, 0, 0, 0, 0), (72, .ifCond .ne 5, 75, 77, 0, 0, 0, 0), (75, .iload_n 1, 76, 0, 0, 0, 0, 1), (76, .ireturn, 77, 0, 0, 0, 0, 0), (77, .aload_n 0, 78, 0, 0, 0, 0, 0), (78, .getfield 179, 81, 908, 0, 0, 6, 26), (81, .ldc2_w 252, 84, 1161, 0, 60, 0, 0), (84, .lcmp, 85, 0, 0, 0, 0, 0), (85, .ifCond .ne 7, 88, 92, 0, 0, 0, 0), (88, .iconst 1, 89, 0, 1, 0, 0, 0), (89, .goto 4, 92, 93, 0, 0, 0, 0), (92, .iconst 0, 93, 0, 0, 0, 0, 0), (93, .istore_n 2, 94, 0, 0, 0, 0, 2), (94, .aload_n 0, 95, 0, 0, 0, 0, 0), (95, .invokevirtual 200, 98, 1096, 0, 0, 0, 0), (98, .aload_n 0, 99, 0, 0, 0, 0, 0), (99, .invokevirtual 249, 102, 1140, 0, 0, 0, 0), (102, .istore_n 3, 103, 0, 0, 0, 0, 3), (103, .iload_n 2, 104, 0, 0, 0, 0, 2), (104, .ifCond .eq 11, 107, 115, 0, 0, 0, 0), (107, .iload_n 1, 108, 0, 0, 0, 0, 1), (108, .iload_n 3, 109, 0, 0, 0, 0, 3), (109, .if_icmp .ge 15, 112, 124, 0, 0, 0, 0), (112, .goto 8, 115, 120, 0, 0, 0, 0), (115, .iload_n 1, 116, 0, 0, 0, 0, 1), (116, .iload_n 3, 117, 0, 0, 0, 0, 3), (117, .if_icmp .ne 7, 120, 124, 0, 0, 0, 0), (120, .iconst 1, 121, 0, 1, 0, 0, 0), (121, .goto 4, 124, 125, 0, 0, 0, 0), (124, .iconst 0, 125, 0, 0, 0, 0, 0), (125, .ireturn, 126, 0, 0, 0, 0, 0)]
def tX7_both : List E8 := [(0, .aload_n 0, 1, 0, 0, 0, 0, 0), (1, .invokevirtual 246, 4, 1132, 0, 0, 0, 0), (4, .istore_n 1, 5, 0, 0, 0, 0, 1), (5, .aload_n 0, 6, 0, 0, 0, 0, 0), (6, .bipush 97, 8, 0, 97, 0, 0, 0), (8, .bipush 110, 10, 0, 110, 0, 0, 0), (10, .bipush 100, 12, 0, 100, 0, 0, 0), (12, .iconst 0, 13, 0, 0, 0, 0, 0), (13, .iconst 0, 14, 0, 0, 0, 0, 0), (14, .iconst 0, 15, 0, 0, 0, 0, 0), (15, .iconst 0, 16, 0, 0, 0, 0, 0), (16, .iconst 0, 17, 0, 0, 0, 0, 0), (17, .invokevirtual 203, 20, 1108, 0, 0, 0, 0), (20, .ifCond .eq 29, 23, 49, 0, 0, 0, 0), (23, .aload_n 0, 24, 0, 0, 0, 0, 0), (24, .invokevirtual 200, 27, 1096, 0, 0, 0, 0), (27, .aload_n 0, 28, 0, 0, 0, 0, 0), (28, .invokevirtual 246, 31, 1132, 0, 0, 0, 0), (31, .istore_n 2, 32, 0, 0, 0, 0, 2), (32, .iload_n 1, 33, 0, 0, 0, 0, 1), (33, .ifCond .eq 11, 36, 44, 0, 0, 0, 0), (36, .iload_n 2, 37, 0, 0, 0, 0, 2), (37, .ifCond .eq 7, 40, 44, 0, 0, 0, 0), (40, .iconst 1, 41, 0, 1, 0, 0, 0), (41, .goto 4, 44, 45, 0, 0, 0, 0), (44, .iconst 0, 45, 0, 0, 0, 0, 0), (45, .istore_n 1, 46, 0, 0, 0, 0, 1), (46, .goto (-41), 49, 5, 0, 0, 0, 0), (49, .iload_n 1, 50, 0, 0, 0, 0, 1), (50, .ireturn, 51, 0, 0, 0, 0, 0)]
def tX7_either : List E8 := [(0, .aload_n 0, 1, 0, 0, 0, 0, 0), (1, .invokevirtual 254, 4, 1128, 0, 0, 0, 0), (4, .istore_n 1, 5, 0, 0, 0, 0, 1), (5, .aload_n 0, 6, 0, 0, 0, 0, 0), (6, .bipush 111, 8, 0, 111, 0, 0, 0), (8, .bipush 114, 10, 0, 114, 0, 0, 0), (10, .iconst 0, 11, 0, 0, 0, 0, 0), (11, .iconst 0, 12, 0, 0, 0, 0, 0), (12, .iconst 0, 13, 0, 0, 0, 0, 0), (13, .iconst 0, 14, 0, 0, 0, 0, 0), (14, .iconst 0, 15, 0, 0, 0, 0, 0), (15, .iconst 0, 16, 0, 0, 0, 0, 0), (16, .invokevirtual 203, 19, 1108, 0, 0, 0, 0), (19, .ifCond .eq 29, 22, 48, 0, 0, 0, 0), (22, .aload_n 0, 23, 0, 0, 0, 0, 0), (23, .invokevirtual 200, 26, 1096, 0, 0, 0, 0), (26, .aload_n 0, 27, 0, 0, 0, 0, 0), (27, .invokevirtual 254, 30, 1128, 0, 0, 0, 0), (30, .istore_n 2, 31, 0, 0, 0, 0, 2), (31, .iload_n 1, 32, 0, 0, 0, 0, 1), (32, .ifCond .ne 7, 35, 39, 0, 0, 0, 0), (35, .iload_n 2, 36, 0, 0, 0, 0, 2), (36, .ifCond .eq 7, 39, 43, 0, 0, 0, 0), (39, .iconst 1, 40, 0, 1, 0, 0, 0), (40, .goto 4, 43, 44, 0, 0, 0, 0), (43, .iconst 0, 44, 0, 0, 0, 0, 0), (44, .istore_n 1, 45, 0, 0, 0, 0, 1), (45, .goto (-40), 48, 5, 0, 0, 0, 0), (48, .iload_n 1, 49, 0, 0, 0, 0, 1), (49, .ireturn, 50, 0, 0, 0, 0, 0)]
def tX7_part : List E8 := [(0, .iload_n 1, 1, 0, 0, 0, 0, 1), (1, .ifCond .ne 7, 4, 8, 0, 0, 0, 0), (4, .aload_n 0, 5, 0, 0, 0, 0, 0), (5, .invokevirtual 197, 8, 1120, 0, 0, 0, 0), (8, .aload_n 0, 9, 0, 0, 0, 0, 0), (9, .getfield 183, 12, 910, 0, 0, 6, 28), (12, .ifCond .ne 7, 15, 19, 0, 0, 0, 0), (15, .aload_n 0, 16, 0, 0, 0, 0, 0), (16, .invokevirtual 200, 19, 1096, 0, 0, 0, 0), (19, .aload_n 0, 20, 0, 0, 0, 0, 0), (20, .getfield 183, 23, 910, 0, 0, 6, 28), (23, .ifCond .eq 7, 26, 30, 0, 0, 0, 0), (26, .iconst 0, 27, 0, 0, 0, 0, 0), (27, .goto 7, 30, 34, 0, 0, 0, 0), (30, .aload_n 0, 31, 0, 0, 0, 0, 0), (31, .invokevirtual 235, 34, 1124, 0, 0, 0, 0), (34, .istore_n 2, 35, 0, 0, 0, 0, 2), (35, .aload_n 0, 36, 0, 0, 0, 0, 0), (36, .bipush 59, 38, 0, 59, 0, 0, 0), (38, .invokevirtual 225, 41, 1152, 0, 0, 0, 0), (41, .ifCond .ne 7, 44, 48, 0, 0, 0, 0), (44, .aload_n 0, 45, 0, 0, 0, 0, 0), (45, .invokevirtual 197, 48, 1120, 0, 0, 0, 0), (48, .aload_n 0, 49, 0, 0, 0, 0, 0), (49, .getfield 183, 52, 910, 0, 0, 6, 28), (52, .ifCond .ne 7, 55, 59, 0, 0, 0, 0), (55, .aload_n 0, 56, 0, 0, 0, 0, 0), (56, .invokevirtual 200, 59, 1096, 0, 0, 0, 0), (59, .iload_n 2, 60, 0, 0, 0, 0, 2), (60, .ireturn, 61, 0, 0, 0, 0, 0)]
def tX7_read : List E8 := [(0, .aload_n 0, 1, 0, 0, 0, 0, 0), (1, .sipush 160, 4, 0, 160, 0, 0, 0), (4, .iload_n 1, 5, 0, 0, 0, 0, 1), (5, .imul, 6, 0, 0, 0, 0, 0), (6, .putfield 156, 9, 903, 0, 0, 6, 21), (9, .aload_n 0, 10, 0, 0, 0, 0, 0), (10, .aload_n 0, 11, 0, 0, 0, 0, 0), (11, .getfield 17, 14, 884, 0, 0, 6, 2), (14, .iload_n 1, 15, 0, 0, 0, 0, 1), (15, .iaload, 16, 0, 0, 0, 0, 0), (16, .putfield 153, 19, 904, 0, 0, 6, 22), (19, .aload_n 0, 20, 0, 0, 0, 0, 0), (20, .iconst 0, 21, 0, 0, 0, 0, 0), (21, .putfield 159, 24, 905, 0, 0, 6, 23), (24, .aload_n 0, 25, 0, 0, 0, 0, 0), (25, .iconst 0, 26, 0, 0, 0, 0, 0), (26, .putfield 194, 29, 909, 0, 0, 6, 27), (29, .aload_n 0, 30, 0, 0, 0, 0, 0), (30, .iconst 0, 31, 0, 0, 0, 0, 0), (31, .putfield 183, 34, 910, 0, 0, 6, 28), (34, .aload_n 0, 35, 0, 0, 0, 0, 0), (35, .invokevirtual 200, 38, 1096, 0, 0, 0, 0), (38, .aload_n 0, 39, 0, 0, 0, 0, 0), (39, .aload_n 0, 40, 0, 0, 0, 0, 0), (40, .bipush 114, 42, 0, 114, 0, 0, 0), (42, .bipush 101, 44, 0, 101, 0, 0, 0), (44, .bipush 97, 46, 0, 97, 0, 0, 0), (46, .bipush 100, 48, 0, 100, 0, 0, 0), (48, .bipush 115, 50, 0, 115, 0, 0, 0), (50, .iconst 0, 51, 0, 0, 0, 0, 0), (51, .iconst 0, 52, 0, 0, 0, 0, 0), (52, .iconst 0, 53, 0, 0, 0, 0, 0), (53, .invokevirtual 203, 56, 1108, 0, 0, 0, 0), (56, .invokevirtual 257, 59, 1116, 0, 0, 0, 0), (59, .istore_n 3, 60, 0, 0, 0, 0, 3), (60, .aload_n 0, 61, 0, 0, 0, 0, 0), (61, .getfield 183, 64, 910, 0, 0, 6, 28), (64, .ifCond .eq 7, 67, 71, 0, 0, 0, 0), (67, .iconst 0, 68, 0, 0, 0, 0, 0), (68, .goto 25, 71, 93, 0, 0, 0, 0), (71, .aload_n 0, 72, 0, 0, 0, 0, 0), (72, .aload_n 0, 73, 0, 0, 0, 0, 0), (73, .bipush 115, 75, 0, 115, 0, 0, 0), (75, .bipush 116, 77, 0, 116, 0, 0, 0), (77, .bipush 105, 79, 0, 105, 0, 0, 0), (79, .bipush 108, 81, 0, 108, 0, 0, 0), (81, .bipush 108, 83, 0, 108, 0, 0, 0), (83, .bipush 115, 85, 0, 115, 0, 0, 0), (85, .iconst 0, 86, 0, 0, 0, 0, 0), (86, .iconst 0, 87, 0, 0, 0, 0, 0), (87, .invokevirtual 203, 90, 1108, 0, 0, 0, 0), (90, .invokevirtual 257, 93, 1116, 0, 0, 0, 0), (93, .istore 4, 95, 0, 0, 0, 0, 4), (95, .aload_n 0, 96, 0, 0, 0, 0, 0), (96, .getfield 183, 99, 910, 0, 0, 6, 28), (99, .ifCond .eq 7, 102, 106, 0, 0, 0, 0), (102, .iconst 0, 103, 0, 0, 0, 0, 0), (103, .goto 24, 106, 127, 0, 0, 0, 0), (106, .aload_n 0, 107, 0, 0, 0, 0, 0), (107, .aload_n 0, 108, 0, 0, 0, 0, 0), (108, .bipush 110, 110, 0, 110, 0, 0, 0), (110, .bipush 97, 112, 0, 97, 0, 0, 0), (112, .bipush 109, 114, 0, 109, 0, 0, 0), (114, .bipush 101, 116, 0, 101, 0, 0, 0), (116, .bipush 115, 118, 0, 115, 0, 0, 0), (118, .iconst 0, 119, 0, 0, 0, 0, 0), (119, .iconst 0, 120, 0, 0, 0, 0, 0), (120, .iconst 0, 121, 0, 0, 0, 0, 0), (121, .invokevirtual 203, 124, 1108, 0, 0, 0, 0), (124, .invokevirtual 257, 127, 1116, 0, 0, 0, 0), (127, .istore 5, 129, 0, 0, 0, 0, 5), (129, .aload_n 0, 130, 0, 0, 0, 0, 0), (130, .getfield 183, 133, 910, 0, 0, 6, 28), (133, .ifCond .ne 14, 136, 147, 0, 0, 0, 0), (136, .aload_n 0, 137, 0, 0, 0, 0, 0), (137, .getfield 168, 140, 906, 0, 0, 6, 24), (140, .ifCond .eq 7, 143, 147, 0, 0, 0, 0), (143, .aload_n 0, 144, 0, 0, 0, 0, 0), (144, .invokevirtual 197, 147, 1120, 0, 0, 0, 0), (147, .iload_n 2, 148, 0, 0, 0, 0, 2), (148, .ifCond .ne 7, 151, 155, 0, 0, 0, 0), (151, .iload_n 3, 152, 0, 0, 0, 0, 3), (152, .goto 15, 155, 167, 0, 0, 0, 0), (155, .iload_n 2, 156, 0, 0, 0, 0, 2), (156, .iconst 1, 157, 0, 1, 0, 0, 0), (157, .if_icmp .ne 8, 160, 165, 0, 0, 0, 0), (160, .iload 4, 162, 0, 0, 0, 0, 4), (162, .goto 5, 165, 167, 0, 0, 0, 0), (165, .iload 5, 167, 0, 0, 0, 0, 5), (167, .ireturn, 168, 0, 0, 0, 0, 0)]
def tX7_text : List E8 := [(0, .aload_n 0, 1, 0, 0, 0, 0, 0), (1, .getfield 83, 4, 885, 0, 0, 6, 3), (4, .bipush 6, 6, 0, 6, 0, 0, 0), (6, .if_icmp .ne 6, 9, 12, 0, 0, 0, 0), (9, .bipush (-4), 11, 0, (-4), 0, 0, 0), (11, .ireturn, 12, 0, 0, 0, 0, 0), (12, .iconst 0, 13, 0, 0, 0, 0, 0), (13, .istore_n 1, 14, 0, 0, 0, 0, 1), (14, .iload_n 1, 15, 0, 0, 0, 0, 1), (15, .aload_n 0, 16, 0, 0, 0, 0, 0), (16, .getfield 150, 19, 888, 0, 0, 6, 6), (19, .if_icmp .ge 30, 22, 49, 0, 0, 0, 0), (22, .aload_n 0, 23, 0, 0, 0, 0, 0), (23, .getfield 13, 26, 883, 0, 0, 6, 1), (26, .sipush 160, 29, 0, 160, 0, 0, 0), (29, .aload_n 0, 30, 0, 0, 0, 0, 0), (30, .getfield 83, 33, 885, 0, 0, 6, 3), (33, .imul, 34, 0, 0, 0, 0, 0), (34, .iload_n 1, 35, 0, 0, 0, 0, 1), (35, .iadd, 36, 0, 0, 0, 0, 0), (36, .aload_n 0, 37, 0, 0, 0, 0, 0), (37, .getfield 20, 40, 887, 0, 0, 6, 5), (40, .iload_n 1, 41, 0, 0, 0, 0, 1), (41, .iaload, 42, 0, 0, 0, 0, 0), (42, .iastore, 43, 0, 0, 0, 0, 0), (43, .iinc 1 1, 46, 0, 1, 0, 0, 0), (46, .goto (-32), 49, 14, 0, 0, 0, 0), (49, .aload_n 0, 50, 0, 0, 0, 0, 0), (50, .getfield 17, 53, 884, 0, 0, 6, 2), (53, .aload_n 0, 54, 0, 0, 0, 0, 0), (54, .getfield 83, 57, 885, 0, 0, 6, 3), (57, .aload_n 0, 58, 0, 0, 0, 0, 0), (58, .getfield 150, 61, 888, 0, 0, 6, 6), (61, .iastore, 62, 0, 0, 0, 0, 0), (62, .aload_n 0, 63, 0, 0, 0, 0, 0), (63, .iconst 0, 64, 0, 0, 0, 0, 0), (64, .putfield 150, 67, 888, 0, 0, 6, 6), (67, .aload_n 0, 68, 0, 0, 0, 0, 0), (68, .aload_n 0, 69, 0, 0, 0, 0, 0), (69, .getfield 83, 72, 885, 0, 0, 6, 3), (72, .iconst 0, 73, 0, 0, 0, 0, 0), (73, .invokevirtual 261, 76, 1092, 0, 0, 0, 0), (76, .istore_n 1, 77, 0, 0, 0, 0, 1), (77, .aload_n 0, 78, 0, 0, 0, 0, 0), (78, .getfield 183, 81, 910, 0, 0, 6, 28), (81, .ifCond .eq 11, 84, 92, 0, 0, 0, 0), (84, .bipush (-100), 86, 0, (-100), 0, 0, 0), (86, .aload_n 0, 87, 0, 0, 0, 0, 0), (87, .getfield 187, 90, 911, 0, 0, 6, 29), (90, .isub, 91, 0, 0, 0, 0, 0), (91, .ireturn, 92, 0, 0, 0, 0, 0), (92, .aload_n 0, 93, 0, 0, 0, 0, 0), (93, .dup, 94, 0, 0, 0, 0, 0), (94, .getfield 83, 97, 885, 0, 0, 6, 3), (97, .iconst 1, 98, 0, 1, 0, 0, 0), (98, .iadd, 99, 0, 0, 0, 0, 0), (99, .putfield 83, 102, 885, 0, 0, 6, 3), (102, .aload_n 0, 103, 0, 0, 0, 0, 0), (103, .getfield 83, 106, 885, 0, 0, 6, 3), (106, .iconst 1, 107, 0, 1, 0, 0, 0), (107, .isub, 108, 0, 0, 0, 0, 0), (108, .ireturn, 109, 0, 0, 0, 0, 0)]
def tX7_force : List E8 := [(0, .iload_n 1, 1, 0, 0, 0, 0, 1), (1, .i2l, 2, 0, 0, 0, 0, 0), (2, .lconst 0, 3, 0, 0, 0, 0, 0), (3, .aload_n 0, 4, 0, 0, 0, 0, 0), (4, .getfield 83, 7, 885, 0, 0, 6, 3), (7, .iconst 1, 8, 0, 1, 0, 0, 0), (8, .isub, 9, 0, 0, 0, 0, 0), (9, .i2l, 10, 0, 0, 0, 0, 0), (10, .invokestatic 89, 13, 1055, 0, 0, 0, 0), (13, .ifCond .ne 6, 16, 19, 0, 0, 0, 0), (16, .bipush (-2), 18, 0, (-2), 0, 0, 0), (18, .ireturn, 19, 0, 0, 0, 0, 0), (19, .aload_n 0, 20, 0, 0, 0, 0, 0), (20, .getfield 117, 23, 886, 0, 0, 6, 4), (23, .istore_n 2, 24, 0, 0, 0, 0, 2), (24, .aload_n 0, 25, 0, 0, 0, 0, 0), (25, .iload_n 1, 26, 0, 0, 0, 0, 1), (26, .putfield 117, 29, 886, 0, 0, 6, 4), (29, .iload_n 2, 30, 0, 0, 0, 0, 2), (30, .ireturn, 31, 0, 0, 0, 0, 0)]
def tX7_asks : List E8 := [(0, .aload_n 0, 1, 0, 0, 0, 0, 0), (1, .aload_n 0, 2, 0, 0, 0, 0, 0), (2, .getfield 29, 5, 892, 0, 0, 6, 10), (5, .iload_n 2, 6, 0, 0, 0, 0, 2), (6, .iaload, 7, 0, 0, 0, 0, 0), (7, .putfield 207, 10, 897, 0, 0, 6, 15), (10, .aload_n 0, 11, 0, 0, 0, 0, 0), (11, .aload_n 0, 12, 0, 0, 0, 0, 0), (12, .getfield 32, 15, 893, 0, 0, 6, 11), (15, .iload_n 2, 16, 0, 0, 0, 0, 2), (16, .iaload, 17, 0, 0, 0, 0, 0), (17, .putfield 210, 20, 898, 0, 0, 6, 16), (20, .aload_n 0, 21, 0, 0, 0, 0, 0), (21, .aload_n 0, 22, 0, 0, 0, 0, 0), (22, .getfield 114, 25, 889, 0, 0, 6, 7), (25, .putfield 213, 28, 899, 0, 0, 6, 17), (28, .aload_n 0, 29, 0, 0, 0, 0, 0), (29, .iload_n 3, 30, 0, 0, 0, 0, 3), (30, .putfield 216, 33, 900, 0, 0, 6, 18), (33, .aload_n 0, 34, 0, 0, 0, 0, 0), (34, .iload_n 2, 35, 0, 0, 0, 0, 2), (35, .putfield 219, 38, 901, 0, 0, 6, 19), (38, .aload_n 0, 39, 0, 0, 0, 0, 0), (39, .aload_n 0, 40, 0, 0, 0, 0, 0), (40, .getfield 86, 43, 894, 0, 0, 6, 12), (43, .putfield 222, 46, 902, 0, 0, 6, 20), (46, .aload_n 0, 47, 0, 0, 0, 0, 0), (47, .getfield 117, 50, 886, 0, 0, 6, 4), (50, .i2l, 51, 0, 0, 0, 0, 0), (51, .ldc2_w 96, 54, 1054, 0, 3, 0, 0), (54, .lmul, 55, 0, 0, 0, 0, 0), (55, .iload_n 1, 56, 0, 0, 0, 0, 1), (56, .i2l, 57, 0, 0, 0, 0, 0), (57, .ladd, 58, 0, 0, 0, 0, 0), (58, .lstore 4, 60, 0, 0, 0, 0, 4), (60, .lload 4, 62, 0, 0, 0, 0, 4), (62, .ldc2_w 264, 65, 1088, 0, 16, 0, 0), (65, .lmul, 66, 0, 0, 0, 0, 0), (66, .aload_n 0, 67, 0, 0, 0, 0, 0), (67, .getfield 207, 70, 897, 0, 0, 6, 15), (70, .i2l, 71, 0, 0, 0, 0, 0), (71, .ladd, 72, 0, 0, 0, 0, 0), (72, .lstore 4, 74, 0, 0, 0, 0, 4), (74, .lload 4, 76, 0, 0, 0, 0, 4), (76, .ldc2_w 266, 79, 1089, 0, 128, 0, 0), (79, .lmul, 80, 0, 0, 0, 0, 0), (80, .aload_n 0, 81, 0, 0, 0, 0, 0), (81, .getfield 210, 84, 898, 0, 0, 6, 16), (84, .i2l, 85, 0, 0, 0, 0, 0), (85, .ladd, 86, 0, 0, 0, 0, 0), (86, .lstore 4, 88, 0, 0, 0, 0, 4), (88, .lload 4, 90, 0, 0, 0, 0, 4), (90, .ldc2_w 268, 93, 1090, 0, 2048, 0, 0), (93, .lmul, 94, 0, 0, 0, 0, 0), (94, .aload_n 0, 95, 0, 0, 0, 0, 0), (95, .getfield 213, 98, 899, 0, 0, 6, 17), (98, .i2l, 99, 0, 0, 0, 0, 0), (99, .ladd, 100, 0, 0, 0, 0, 0), (100, .lstore 4, 102, 0, 0, 0, 0, 4), (102, .lload 4, 104, 0, 0, 0, 0, 4), (104, .ldc2_w 264, 107, 1088, 0, 16, 0, 0), (107, .lmul, 108, 0, 0, 0, 0, 0), (108, .aload_n 0, 109, 0, 0, 0, 0, 0), (109, .getfield 216, 112, 900, 0, 0, 6, 18), (112, .i2l, 113, 0, 0, 0, 0, 0), (113, .ladd, 114, 0, 0, 0, 0, 0), (114, .lstore 4, 116, 0, 0, 0, 0, 4), (116, .lload 4, 118, 0, 0, 0, 0, 4), (118, .ldc2_w 264, 121, 1088, 0, 16, 0, 0), (121, .lmul, 122, 0, 0, 0, 0, 0), (122, .aload_n 0, 123, 0, 0, 0, 0, 0), (123, .getfield 219, 126, 901, 0, 0, 6, 19), (126, .i2l, 127, 0, 0, 0, 0, 0), (127, .ladd, 128, 0, 0, 0, 0, 0), (128, .lstore 4, 130, 0, 0, 0, 0, 4), (130, .lload 4, 132, 0, 0, 0, 0, 4), (132, .ldc2_w 264, 135, 1088, 0, 16, 0, 0), (135, .lmul, 136, 0, 0, 0, 0, 0), (136, .aload_n 0, 137, 0, 0, 0, 0, 0), (137, .getfield 222, 140, 902, 0, 0, 6, 20), (140, .i2l, 141, 0, 0, 0, 0, 0), (141, .ladd, 142, 0, 0, 0, 0, 0), (142, .lconst 1, 143, 0, 0, 1, 0, 0), (143, .ladd, 144, 0, 0, 0, 0, 0), (144, .lstore 4, 146, 0, 0, 0, 0, 4), (146, .lload 4, 148, 0, 0, 0, 0, 4), (148, .ldc2_w 270, 151, 1091, 0, 7046029254386353131, 0, 0), (151, .lmul, 152, 0, 0, 0, 0, 0), (152, .bipush 54, 154, 0, 54, 0, 0, 0), (154, .lushr, 155, 0, 0, 0, 0, 0), (155, .l2i, 156, 0, 0, 0, 0, 0), (156, .istore 6, 158, 0, 0, 0, 0, 6), (158, .aload_n 0, 159, 0, 0, 0, 0, 0), (159, .getfield 38, 162, 912, 0, 0, 6, 30), (162, .iload 6, 164, 0, 0, 0, 0, 6), (164, .laload, 165, 0, 0, 0, 0, 0), (165, .lload 4, 167, 0, 0, 0, 0, 4), (167, .lcmp, 168, 0, 0, 0, 0, 0), (168, .ifCond .eq 28, 171, 196, 0, 0, 0, 0), (171, .aload_n 0, 172, 0, 0, 0, 0, 0), (172, .getfield 42, 175, 913, 0, 0, 6, 31), (175, .iload 6, 177, 0, 0, 0, 0, 6), (177, .aload_n 0, 178, 0, 0, 0, 0, 0), (178, .aload_n 0, 179, 0, 0, 0, 0, 0), (179, .getfield 117, 182, 886, 0, 0, 6, 4), (182, .iload_n 1, 183, 0, 0, 0, 0, 1), (183, .invokevirtual 261, 186, 1092, 0, 0, 0, 0), (186, .iastore, 187, 0, 0, 0, 0, 0), (187, .aload_n 0, 188, 0, 0, 0, 0, 0), (188, .getfield 38, 191, 912, 0, 0, 6, 30), (191, .iload 6, 193, 0, 0, 0, 0, 6), (193, .lload 4, 195, 0, 0, 0, 0, 4), (195, .lastore, 196, 0, 0, 0, 0, 0), (196, .iload_n 1, 197, 0, 0, 0, 0, 1), (197, .ifCond .ne 13, 200, 210, 0, 0, 0, 0), (200, .aload_n 0, 201, 0, 0, 0, 0, 0), (201, .getfield 42, 204, 913, 0, 0, 6, 31), (204, .iload 6, 206, 0, 0, 0, 0, 6), (206, .iaload, 207, 0, 0, 0, 0, 0), (207, .goto 16, 210, 223, 0, 0, 0, 0), (210, .aload_n 0, 211, 0, 0, 0, 0, 0), (211, .getfield 42, 214, 913, 0, 0, 6, 31), (214, .iload 6, 216, 0, 0, 0, 0, 6), (216, .iaload, 217, 0, 0, 0, 0, 0), (217, .iconst 0, 218, 0, 0, 0, 0, 0), (218, .bipush 60, 220, 0, 60, 0, 0, 0), (220, .invokestatic 272, 223, 1162, 0, 0, 0, 0), (223, .ireturn, 224, 0, 0, 0, 0, 0)]
def tX7_isRead : List E8 := [(0, .aload_n 0, 1, 0, 0, 0, 0, 0), (1, .getfield 26, 4, 891, 0, 0, 6, 9), (4, .iload_n 1, 5, 0, 0, 0, 0, 1), (5, .iaload, 6, 0, 0, 0, 0, 0), (6, .istore_n 3, 7, 0, 0, 0, 0, 3), (7, .aload_n 0, 8, 0, 0, 0, 0, 0), (8, .getfield 32, 11, 893, 0, 0, 6, 11), (11, .iload_n 1, 12, 0, 0, 0, 0, 1), (12, .iaload, 13, 0, 0, 0, 0, 0), (13, .istore 4, 15, 0, 0, 0, 0, 4), (15, .iload_n 3, 16, 0, 0, 0, 0, 3), (16, .iconst 1, 17, 0, 1, 0, 0, 0), (17, .if_icmp .eq 8, 20, 25, 0, 0, 0, 0), (20, .iload_n 3, 21, 0, 0, 0, 0, 3), (21, .iconst 5, 22, 0, 5, 0, 0, 0), (22, .if_icmp .ne 14, 25, 36, 0, 0, 0, 0), (25, .iload_n 3, 26, 0, 0, 0, 0, 3), (26, .iconst 1, 27, 0, 1, 0, 0, 0), (27, .if_icmp .ne 7, 30, 34, 0, 0, 0, 0), (30, .iconst 1, 31, 0, 1, 0, 0, 0), (31, .goto 4, 34, 35, 0, 0, 0, 0), (34, .iconst 0, 35, 0, 0, 0, 0, 0), (35, .ireturn, 36, 0, 0, 0, 0, 0), (36, .iload_n 3, 37, 0, 0, 0, 0, 3), (37, .iconst 3, 38, 0, 3, 0, 0, 0), (38, .if_icmp .ne 25, 41, 63, 0, 0, 0, 0), (41, .aload_n 0, 42, 0, 0, 0, 0, 0), (42, .getfield 114, 45, 889, 0, 0, 6, 7), (45, .bipush 10, 47, 0, 10, 0, 0, 0), (47, .irem, 48, 0, 0, 0, 0, 0), (48, .aload_n 0, 49, 0, 0, 0, 0, 0), (49, .getfield 29, 52, 892, 0, 0, 6, 10), (52, .iload_n 1, 53, 0, 0, 0, 0, 1), (53, .iaload, 54, 0, 0, 0, 0, 0), (54, .if_icmp .eq 7, 57, 61, 0, 0, 0, 0), (57, .iconst 1, 58, 0, 1, 0, 0, 0), (58, .goto 4, 61, 62, 0, 0, 0, 0), (61, .iconst 0, 62, 0, 0, 0, 0, 0), (62, .ireturn, 63, 0, 0, 0, 0, 0), (63, .aload_n 0, 64, 0, 0, 0, 0, 0), (64, .iconst 0, 65, 0, 0, 0, 0, 0), (65, .iload_n 1, 66, 0, 0, 0, 0, 1), (66, .iload_n 2, 67, 0, 0, 0, 0, 2), (67, .invokevirtual 276, 70, 1084, 0, 0, 0, 0), (70, .ifCond .eq 7, 73, 77, 0, 0, 0, 0), (73, .iconst 1, 74, 0, 1, 0, 0, 0), (74, .goto 4, 77, 78, 0, 0, 0, 0), (77, .iconst 0, 78, 0, 0, 0, 0, 0), (78, .istore 5, 80, 0, 0, 0, 0, 5), (80, .iload_n 3, 81, 0, 0, 0, 0, 3), (81, .ifCond .ne 8, 84, 89, 0, 0, 0, 0), (84, .iload 5, 86, 0, 0, 0, 0, 5), (86, .goto 37, 89, 123, 0, 0, 0, 0), (89, .iload 5, 91, 0, 0, 0, 0, 5), (91, .ifCond .eq 8, 94, 99, 0, 0, 0, 0), (94, .iload 4, 96, 0, 0, 0, 0, 4), (96, .ifCond .gt 22, 99, 118, 0, 0, 0, 0), (99, .iload_n 3, 100, 0, 0, 0, 0, 3), (100, .iconst 4, 101, 0, 4, 0, 0, 0), (101, .if_icmp .ne 21, 104, 122, 0, 0, 0, 0), (104, .iload 4, 106, 0, 0, 0, 0, 4), (106, .bipush 10, 108, 0, 10, 0, 0, 0), (108, .aload_n 0, 109, 0, 0, 0, 0, 0), (109, .getfield 29, 112, 892, 0, 0, 6, 10), (112, .iload_n 1, 113, 0, 0, 0, 0, 1), (113, .iaload, 114, 0, 0, 0, 0, 0), (114, .imul, 115, 0, 0, 0, 0, 0), (115, .if_icmp .lt 7, 118, 122, 0, 0, 0, 0), (118, .iconst 1, 119, 0, 1, 0, 0, 0), (119, .goto 4, 122, 123, 0, 0, 0, 0), (122, .iconst 0, 123, 0, 0, 0, 0, 0), (123, .ireturn, 124, 0, 0, 0, 0, 0)]
def tX7_silenceOf : List E8 := [(0, .aload_n 0, 1, 0, 0, 0, 0, 0), (1, .getfield 26, 4, 891, 0, 0, 6, 9), (4, .iload_n 1, 5, 0, 0, 0, 0, 1), (5, .iaload, 6, 0, 0, 0, 0, 0), (6, .istore_n 3, 7, 0, 0, 0, 0, 3), (7, .iload_n 3, 8, 0, 0, 0, 0, 3), (8, .iconst 5, 9, 0, 5, 0, 0, 0), (9, .if_icmp .ne 5, 12, 14, 0, 0, 0, 0), (12, .iconst 1, 13, 0, 1, 0, 0, 0), (13, .ireturn, 14, 0, 0, 0, 0, 0), (14, .aload_n 0, 15, 0, 0, 0, 0, 0), (15, .iconst 1, 16, 0, 1, 0, 0, 0), (16, .iload_n 1, 17, 0, 0, 0, 0, 1), (17, .iload_n 2, 18, 0, 0, 0, 0, 2), (18, .invokevirtual 276, 21, 1084, 0, 0, 0, 0), (21, .istore 4, 23, 0, 0, 0, 0, 4), (23, .iload_n 3, 24, 0, 0, 0, 0, 3), (24, .iconst 1, 25, 0, 1, 0, 0, 0), (25, .if_icmp .ne 10, 28, 35, 0, 0, 0, 0), (28, .iconst 2, 29, 0, 2, 0, 0, 0), (29, .iload 4, 31, 0, 0, 0, 0, 4), (31, .imul, 32, 0, 0, 0, 0, 0), (32, .goto 50, 35, 82, 0, 0, 0, 0), (35, .iload_n 3, 36, 0, 0, 0, 0, 3), (36, .iconst 3, 37, 0, 3, 0, 0, 0), (37, .if_icmp .ne 17, 40, 54, 0, 0, 0, 0), (40, .iconst 2, 41, 0, 2, 0, 0, 0), (41, .iload 4, 43, 0, 0, 0, 0, 4), (43, .imul, 44, 0, 0, 0, 0, 0), (44, .aload_n 0, 45, 0, 0, 0, 0, 0), (45, .getfield 29, 48, 892, 0, 0, 6, 10), (48, .iload_n 1, 49, 0, 0, 0, 0, 1), (49, .iaload, 50, 0, 0, 0, 0, 0), (50, .iadd, 51, 0, 0, 0, 0, 0), (51, .goto 31, 54, 82, 0, 0, 0, 0), (54, .iload_n 3, 55, 0, 0, 0, 0, 3), (55, .iconst 2, 56, 0, 2, 0, 0, 0), (56, .if_icmp .ne 10, 59, 66, 0, 0, 0, 0), (59, .iload 4, 61, 0, 0, 0, 0, 4), (61, .iconst 2, 62, 0, 2, 0, 0, 0), (62, .idiv, 63, 0, 0, 0, 0, 0), (63, .goto 19, 66, 82, 0, 0, 0, 0), (66, .iload_n 3, 67, 0, 0, 0, 0, 3), (67, .iconst 4, 68, 0, 4, 0, 0, 0), (68, .if_icmp .ne 12, 71, 80, 0, 0, 0, 0), (71, .iload 4, 73, 0, 0, 0, 0, 4), (73, .iconst 2, 74, 0, 2, 0, 0, 0), (74, .idiv, 75, 0, 0, 0, 0, 0), (75, .iconst 2, 76, 0, 2, 0, 0, 0), (76, .iadd, 77, 0, 0, 0, 0, 0), (77, .goto 5, 80, 82, 0, 0, 0, 0), (80, .iload 4, 82, 0, 0, 0, 0, 4), (82, .ireturn, 83, 0, 0, 0, 0, 0)]
def tX7_timeOf : List E8 := [(0, .aload_n 0, 1, 0, 0, 0, 0, 0), (1, .getfield 26, 4, 891, 0, 0, 6, 9), (4, .iload_n 1, 5, 0, 0, 0, 0, 1), (5, .iaload, 6, 0, 0, 0, 0, 0), (6, .istore_n 3, 7, 0, 0, 0, 0, 3), (7, .aload_n 0, 8, 0, 0, 0, 0, 0), (8, .iconst 2, 9, 0, 2, 0, 0, 0), (9, .iload_n 1, 10, 0, 0, 0, 0, 1), (10, .iload_n 2, 11, 0, 0, 0, 0, 2), (11, .invokevirtual 276, 14, 1084, 0, 0, 0, 0), (14, .istore 4, 16, 0, 0, 0, 0, 4), (16, .iload_n 3, 17, 0, 0, 0, 0, 3), (17, .iconst 1, 18, 0, 1, 0, 0, 0), (18, .if_icmp .eq 8, 21, 26, 0, 0, 0, 0), (21, .iload_n 3, 22, 0, 0, 0, 0, 3), (22, .iconst 3, 23, 0, 3, 0, 0, 0), (23, .if_icmp .ne 15, 26, 38, 0, 0, 0, 0), (26, .iload 4, 28, 0, 0, 0, 0, 4), (28, .aload_n 0, 29, 0, 0, 0, 0, 0), (29, .getfield 29, 32, 892, 0, 0, 6, 10), (32, .iload_n 1, 33, 0, 0, 0, 0, 1), (33, .iaload, 34, 0, 0, 0, 0, 0), (34, .iadd, 35, 0, 0, 0, 0, 0), (35, .goto 24, 38, 59, 0, 0, 0, 0), (38, .iload_n 3, 39, 0, 0, 0, 0, 3), (39, .iconst 4, 40, 0, 4, 0, 0, 0), (40, .if_icmp .ne 17, 43, 57, 0, 0, 0, 0), (43, .aload_n 0, 44, 0, 0, 0, 0, 0), (44, .getfield 114, 47, 889, 0, 0, 6, 7), (47, .iconst 2, 48, 0, 2, 0, 0, 0), (48, .irem, 49, 0, 0, 0, 0, 0), (49, .iconst 1, 50, 0, 1, 0, 0, 0), (50, .if_icmp .ne 7, 53, 57, 0, 0, 0, 0), (53, .iconst 0, 54, 0, 0, 0, 0, 0), (54, .goto 5, 57, 59, 0, 0, 0, 0), (57, .iload 4, 59, 0, 0, 0, 0, 4), (59, .ireturn, 60, 0, 0, 0, 0, 0)]
def tX7_listNow : List E8 := [(0, .iconst 0, 1, 0, 0, 0, 0, 0), (1, .istore_n 1, 2, 0, 0, 0, 0, 1), (2, .iconst 0, 3, 0, 0, 0, 0, 0), (3, .istore_n 2, 4, 0, 0, 0, 0, 2), (4, .iconst 0, 5, 0, 0, 0, 0, 0), (5, .istore_n 3, 6, 0, 0, 0, 0, 3), (6, .iload_n 3, 7, 0, 0, 0, 0, 3), (7, .aload_n 0, 8, 0, 0, 0, 0, 0), (8, .getfield 86, 11, 894, 0, 0, 6, 12), (11, .if_icmp .ge 27, 14, 38, 0, 0, 0, 0), (14, .aload_n 0, 15, 0, 0, 0, 0, 0), (15, .iload_n 3, 16, 0, 0, 0, 0, 3), (16, .iload_n 2, 17, 0, 0, 0, 0, 2), (17, .invokevirtual 279, 20, 1080, 0, 0, 0, 0), (20, .ifCond .eq 12, 23, 32, 0, 0, 0, 0), (23, .iload_n 1, 24, 0, 0, 0, 0, 1), (24, .iconst 1, 25, 0, 1, 0, 0, 0), (25, .iload_n 3, 26, 0, 0, 0, 0, 3), (26, .ishl, 27, 0, 0, 0, 0, 0), (27, .ior, 28, 0, 0, 0, 0, 0), (28, .istore_n 1, 29, 0, 0, 0, 0, 1), (29, .iinc 2 1, 32, 0, 1, 0, 0, 0), (32, .iinc 3 1, 35, 0, 1, 0, 0, 0), (35, .goto (-29), 38, 6, 0, 0, 0, 0), (38, .iload_n 1, 39, 0, 0, 0, 0, 1), (39, .ireturn, 40, 0, 0, 0, 0, 0)]
def tX7_goneBy : List E8 := [(0, .iconst 0, 1, 0, 0, 0, 0, 0), (1, .istore_n 3, 2, 0, 0, 0, 0, 3), (2, .iconst 0, 3, 0, 0, 0, 0, 0), (3, .istore 4, 5, 0, 0, 0, 0, 4), (5, .iconst 0, 6, 0, 0, 0, 0, 0), (6, .istore 5, 8, 0, 0, 0, 0, 5), (8, .iload 5, 10, 0, 0, 0, 0, 5), (10, .aload_n 0, 11, 0, 0, 0, 0, 0), (11, .getfield 86, 14, 894, 0, 0, 6, 12), (14, .if_icmp .ge 66, 17, 80, 0, 0, 0, 0), (17, .iload_n 1, 18, 0, 0, 0, 0, 1), (18, .iload 5, 20, 0, 0, 0, 0, 5), (20, .ishr, 21, 0, 0, 0, 0, 0), (21, .iconst 1, 22, 0, 1, 0, 0, 0), (22, .iand, 23, 0, 0, 0, 0, 0), (23, .iconst 1, 24, 0, 1, 0, 0, 0), (24, .if_icmp .ne 29, 27, 53, 0, 0, 0, 0), (27, .iload 4, 29, 0, 0, 0, 0, 4), (29, .iload_n 2, 30, 0, 0, 0, 0, 2), (30, .ifCond .ne 7, 33, 37, 0, 0, 0, 0), (33, .iconst 0, 34, 0, 0, 0, 0, 0), (34, .goto 10, 37, 44, 0, 0, 0, 0), (37, .aload_n 0, 38, 0, 0, 0, 0, 0), (38, .iload 5, 40, 0, 0, 0, 0, 5), (40, .iload_n 3, 41, 0, 0, 0, 0, 3), (41, .invokevirtual 145, 44, 1172, 0, 0, 0, 0), (44, .iadd, 45, 0, 0, 0, 0, 0), (45, .istore 4, 47, 0, 0, 0, 0, 4), (47, .iinc 3 1, 50, 0, 1, 0, 0, 0), (50, .goto 24, 53, 74, 0, 0, 0, 0), (53, .iload 4, 55, 0, 0, 0, 0, 4), (55, .iload_n 2, 56, 0, 0, 0, 0, 2), (56, .iconst 1, 57, 0, 1, 0, 0, 0), (57, .if_icmp .ne 7, 60, 64, 0, 0, 0, 0), (60, .iconst 0, 61, 0, 0, 0, 0, 0), (61, .goto 10, 64, 71, 0, 0, 0, 0), (64, .aload_n 0, 65, 0, 0, 0, 0, 0), (65, .iload 5, 67, 0, 0, 0, 0, 5), (67, .iload_n 3, 68, 0, 0, 0, 0, 3), (68, .invokevirtual 142, 71, 1168, 0, 0, 0, 0), (71, .iadd, 72, 0, 0, 0, 0, 0), (72, .istore 4, 74, 0, 0, 0, 0, 4), (74, .iinc 5 1, 77, 0, 1, 0, 0, 0), (77, .goto (-69), 80, 8, 0, 0, 0, 0), (80, .iload 4, 82, 0, 0, 0, 0, 4), (82, .ireturn, 83, 0, 0, 0, 0, 0)]
def tX7_gone : List E8 := [(0, .aload_n 0, 1, 0, 0, 0, 0, 0), (1, .aload_n 0, 2, 0, 0, 0, 0, 0), (2, .invokevirtual 135, 5, 1076, 0, 0, 0, 0), (5, .iconst 2, 6, 0, 2, 0, 0, 0), (6, .invokevirtual 282, 9, 1218, 0, 0, 0, 0), (9, .ireturn, 10, 0, 0, 0, 0, 0)]
def tX7_leftNow : List E8 := [(0, .aload_n 0, 1, 0, 0, 0, 0, 0), (1, .getfield 23, 4, 890, 0, 0, 6, 8), (4, .aload_n 0, 5, 0, 0, 0, 0, 0), (5, .invokevirtual 285, 8, 1214, 0, 0, 0, 0), (8, .isub, 9, 0, 0, 0, 0, 0), (9, .iconst 0, 10, 0, 0, 0, 0, 0), (10, .sipush 600, 13, 0, 600, 0, 0, 0), (13, .invokestatic 272, 16, 1162, 0, 0, 0, 0), (16, .ireturn, 17, 0, 0, 0, 0, 0)]
def tX7_list : List E8 := [(0, .iload_n 1, 1, 0, 0, 0, 0, 1), (1, .i2l, 2, 0, 0, 0, 0, 0), (2, .lconst 0, 3, 0, 0, 0, 0, 0), (3, .ldc2_w 288, 6, 1209, 0, 4, 0, 0), (6, .invokestatic 89, 9, 1055, 0, 0, 0, 0), (9, .ifCond .ne 6, 12, 15, 0, 0, 0, 0), (12, .bipush (-2), 14, 0, (-2), 0, 0, 0), (14, .ireturn, 15, 0, 0, 0, 0, 0), (15, .aload_n 0, 16, 0, 0, 0, 0, 0), (16, .invokevirtual 135, 19, 1076, 0, 0, 0, 0), (19, .istore_n 2, 20, 0, 0, 0, 0, 2), (20, .iload_n 1, 21, 0, 0, 0, 0, 1), (21, .ifCond .ne 7, 24, 28, 0, 0, 0, 0), (24, .iload_n 2, 25, 0, 0, 0, 0, 2), (25, .goto 35, 28, 60, 0, 0, 0, 0), (28, .iload_n 1, 29, 0, 0, 0, 0, 1), (29, .iconst 1, 30, 0, 1, 0, 0, 0), (30, .if_icmp .ne 10, 33, 40, 0, 0, 0, 0), (33, .iload_n 2, 34, 0, 0, 0, 0, 2), (34, .invokestatic 139, 37, 1165, 0, 0, 0, 0), (37, .goto 23, 40, 60, 0, 0, 0, 0), (40, .iload_n 1, 41, 0, 0, 0, 0, 1), (41, .iconst 4, 42, 0, 4, 0, 0, 0), (42, .if_icmp .ne 10, 45, 52, 0, 0, 0, 0), (45, .aload_n 0, 46, 0, 0, 0, 0, 0), (46, .invokevirtual 290, 49, 1210, 0, 0, 0, 0), (49, .goto 11, 52, 60, 0, 0, 0, 0), (52, .aload_n 0, 53, 0, 0, 0, 0, 0), (53, .iload_n 2, 54, 0, 0, 0, 0, 2), (54, .iload_n 1, 55, 0, 0, 0, 0, 1), (55, .iconst 2, 56, 0, 2, 0, 0, 0), (56, .isub, 57, 0, 0, 0, 0, 0), (57, .invokevirtual 282, 60, 1218, 0, 0, 0, 0), (60, .ireturn, 61, 0, 0, 0, 0, 0)]
def tX7_by : List E8 := [(0, .iload_n 1, 1, 0, 0, 0, 0, 1), (1, .i2l, 2, 0, 0, 0, 0, 0), (2, .lconst 0, 3, 0, 0, 0, 0, 0), (3, .iconst 1, 4, 0, 1, 0, 0, 0), (4, .aload_n 0, 5, 0, 0, 0, 0, 0), (5, .getfield 86, 8, 894, 0, 0, 6, 12), (8, .ishl, 9, 0, 0, 0, 0, 0), (9, .iconst 1, 10, 0, 1, 0, 0, 0), (10, .isub, 11, 0, 0, 0, 0, 0), (11, .i2l, 12, 0, 0, 0, 0, 0), (12, .invokestatic 89, 15, 1055, 0, 0, 0, 0), (15, .ifCond .eq 12, 18, 27, 0, 0, 0, 0), (18, .aload_n 0, 19, 0, 0, 0, 0, 0), (19, .iload_n 1, 20, 0, 0, 0, 0, 1), (20, .iconst 2, 21, 0, 2, 0, 0, 0), (21, .invokevirtual 282, 24, 1218, 0, 0, 0, 0), (24, .goto 5, 27, 29, 0, 0, 0, 0), (27, .bipush (-2), 29, 0, (-2), 0, 0, 0), (29, .ireturn, 30, 0, 0, 0, 0, 0)]
def tX7_sits : List E8 := [(0, .aload_n 0, 1, 0, 0, 0, 0, 0), (1, .invokevirtual 290, 4, 1210, 0, 0, 0, 0), (4, .istore_n 1, 5, 0, 0, 0, 0, 1), (5, .iconst 0, 6, 0, 0, 0, 0, 0), (6, .istore_n 2, 7, 0, 0, 0, 0, 2), (7, .iconst 0, 8, 0, 0, 0, 0, 0), (8, .istore_n 3, 9, 0, 0, 0, 0, 3), (9, .iload_n 3, 10, 0, 0, 0, 0, 3), (10, .aload_n 0, 11, 0, 0, 0, 0, 0), (11, .getfield 93, 14, 896, 0, 0, 6, 14), (14, .if_icmp .ge 102, 17, 116, 0, 0, 0, 0), (17, .aload_n 0, 18, 0, 0, 0, 0, 0), (18, .getfield 35, 21, 895, 0, 0, 6, 13), (21, .iconst 3, 22, 0, 3, 0, 0, 0), (22, .iload_n 3, 23, 0, 0, 0, 0, 3), (23, .imul, 24, 0, 0, 0, 0, 0), (24, .iconst 2, 25, 0, 2, 0, 0, 0), (25, .iadd, 26, 0, 0, 0, 0, 0), (26, .iaload, 27, 0, 0, 0, 0, 0), (27, .iconst (-1), 28, 0, (-1), 0, 0, 0), (28, .if_icmp .ne 82, 31, 110, 0, 0, 0, 0), (31, .aload_n 0, 32, 0, 0, 0, 0, 0), (32, .getfield 35, 35, 895, 0, 0, 6, 13), (35, .iconst 3, 36, 0, 3, 0, 0, 0), (36, .iload_n 3, 37, 0, 0, 0, 0, 3), (37, .imul, 38, 0, 0, 0, 0, 0), (38, .iaload, 39, 0, 0, 0, 0, 0), (39, .aload_n 0, 40, 0, 0, 0, 0, 0), (40, .getfield 35, 43, 895, 0, 0, 6, 13), (43, .iconst 3, 44, 0, 3, 0, 0, 0), (44, .iload_n 3, 45, 0, 0, 0, 0, 3), (45, .imul, 46, 0, 0, 0, 0, 0), (46, .iconst 1, 47, 0, 1, 0, 0, 0), (47, .iadd, 48, 0, 0, 0, 0, 0), (48, .iaload, 49, 0, 0, 0, 0, 0), (49, .isub, 50, 0, 0, 0, 0, 0), (50, .istore 4, 52, 0, 0, 0, 0, 4), (52, .iload 4, 54, 0, 0, 0, 0, 4), (54, .iload_n 1, 55, 0, 0, 0, 0, 1), (55, .if_icmp .ge 8, 58, 63, 0, 0, 0, 0), (58, .iload 4, 60, 0, 0, 0, 0, 4), (60, .goto 4, 63, 64, 0, 0, 0, 0), (63, .iload_n 1, 64, 0, 0, 0, 0, 1), (64, .istore 5, 66, 0, 0, 0, 0, 5), (66, .aload_n 0, 67, 0, 0, 0, 0, 0), (67, .getfield 35, 70, 895, 0, 0, 6, 13), (70, .iconst 3, 71, 0, 3, 0, 0, 0), (71, .iload_n 3, 72, 0, 0, 0, 0, 3), (72, .imul, 73, 0, 0, 0, 0, 0), (73, .iconst 1, 74, 0, 1, 0, 0, 0), (74, .iadd, 75, 0, 0, 0, 0, 0), (75, .dup2, 76, 0, 0, 0, 0, 0), (76, .iaload, 77, 0, 0, 0, 0, 0), (77, .iload 5, 79, 0, 0, 0, 0, 5), (79, .iadd, 80, 0, 0, 0, 0, 0), (80, .iastore, 81, 0, 0, 0, 0, 0), (81, .iload_n 1, 82, 0, 0, 0, 0, 1), (82, .iload 5, 84, 0, 0, 0, 0, 5), (84, .isub, 85, 0, 0, 0, 0, 0), (85, .istore_n 1, 86, 0, 0, 0, 0, 1), (86, .iload 5, 88, 0, 0, 0, 0, 5), (88, .iload 4, 90, 0, 0, 0, 0, 4), (90, .if_icmp .ne 20, 93, 110, 0, 0, 0, 0), (93, .aload_n 0, 94, 0, 0, 0, 0, 0), (94, .getfield 35, 97, 895, 0, 0, 6, 13), (97, .iconst 3, 98, 0, 3, 0, 0, 0), (98, .iload_n 3, 99, 0, 0, 0, 0, 3), (99, .imul, 100, 0, 0, 0, 0, 0), (100, .iconst 2, 101, 0, 2, 0, 0, 0), (101, .iadd, 102, 0, 0, 0, 0, 0), (102, .aload_n 0, 103, 0, 0, 0, 0, 0), (103, .getfield 114, 106, 889, 0, 0, 6, 7), (106, .iastore, 107, 0, 0, 0, 0, 0), (107, .iinc 2 1, 110, 0, 1, 0, 0, 0), (110, .iinc 3 1, 113, 0, 1, 0, 0, 0), (113, .goto (-104), 116, 9, 0, 0, 0, 0), (116, .aload_n 0, 117, 0, 0, 0, 0, 0), (117, .dup, 118, 0, 0, 0, 0, 0), (118, .getfield 293, 121, 914, 0, 0, 6, 32), (121, .iload_n 1, 122, 0, 0, 0, 0, 1), (122, .iadd, 123, 0, 0, 0, 0, 0), (123, .putfield 293, 126, 914, 0, 0, 6, 32), (126, .aload_n 0, 127, 0, 0, 0, 0, 0), (127, .dup, 128, 0, 0, 0, 0, 0), (128, .getfield 114, 131, 889, 0, 0, 6, 7), (131, .iconst 1, 132, 0, 1, 0, 0, 0), (132, .iadd, 133, 0, 0, 0, 0, 0), (133, .putfield 114, 136, 889, 0, 0, 6, 7), (136, .iload_n 2, 137, 0, 0, 0, 0, 2), (137, .ireturn, 138, 0, 0, 0, 0, 0)]
def tX7_sit : List E8 := [(0, .aload_n 0, 1, 0, 0, 0, 0, 0), (1, .getfield 114, 4, 889, 0, 0, 6, 7), (4, .sipush 999, 7, 0, 999, 0, 0, 0), (7, .if_icmp .ne 8, 10, 15, 0, 0, 0, 0), (10, .bipush (-3), 12, 0, (-3), 0, 0, 0), (12, .goto 7, 15, 19, 0, 0, 0, 0), (15, .aload_n 0, 16, 0, 0, 0, 0, 0), (16, .invokevirtual 296, 19, 1230, 0, 0, 0, 0), (19, .ireturn, 20, 0, 0, 0, 0, 0)]
def tX7_laysAside : List E8 := [(0, .iconst 0, 1, 0, 0, 0, 0, 0), (1, .istore_n 1, 2, 0, 0, 0, 0, 1), (2, .iload_n 1, 3, 0, 0, 0, 0, 1), (3, .bipush 18, 5, 0, 18, 0, 0, 0), (5, .if_icmp .ge 21, 8, 26, 0, 0, 0, 0), (8, .aload_n 0, 9, 0, 0, 0, 0, 0), (9, .getfield 45, 12, 915, 0, 0, 6, 33), (12, .iload_n 1, 13, 0, 0, 0, 0, 1), (13, .aload_n 0, 14, 0, 0, 0, 0, 0), (14, .getfield 35, 17, 895, 0, 0, 6, 13), (17, .iload_n 1, 18, 0, 0, 0, 0, 1), (18, .iaload, 19, 0, 0, 0, 0, 0), (19, .iastore, 20, 0, 0, 0, 0, 0), (20, .iinc 1 1, 23, 0, 1, 0, 0, 0), (23, .goto (-21), 26, 2, 0, 0, 0, 0), (26, .aload_n 0, 27, 0, 0, 0, 0, 0), (27, .aload_n 0, 28, 0, 0, 0, 0, 0), (28, .getfield 114, 31, 889, 0, 0, 6, 7), (31, .putfield 299, 34, 916, 0, 0, 6, 34), (34, .aload_n 0, 35, 0, 0, 0, 0, 0), (35, .iconst 0, 36, 0, 0, 0, 0, 0), (36, .putfield 293, 39, 914, 0, 0, 6, 32), (39, .return_, 40, 0, 0, 0, 0, 0)]
def tX7_laysBack : List E8 := [(0, .iconst 0, 1, 0, 0, 0, 0, 0), (1, .istore_n 1, 2, 0, 0, 0, 0, 1), (2, .iload_n 1, 3, 0, 0, 0, 0, 1), (3, .bipush 18, 5, 0, 18, 0, 0, 0), (5, .if_icmp .ge 21, 8, 26, 0, 0, 0, 0), (8, .aload_n 0, 9, 0, 0, 0, 0, 0), (9, .getfield 35, 12, 895, 0, 0, 6, 13), (12, .iload_n 1, 13, 0, 0, 0, 0, 1), (13, .aload_n 0, 14, 0, 0, 0, 0, 0), (14, .getfield 45, 17, 915, 0, 0, 6, 33), (17, .iload_n 1, 18, 0, 0, 0, 0, 1), (18, .iaload, 19, 0, 0, 0, 0, 0), (19, .iastore, 20, 0, 0, 0, 0, 0), (20, .iinc 1 1, 23, 0, 1, 0, 0, 0), (23, .goto (-21), 26, 2, 0, 0, 0, 0), (26, .aload_n 0, 27, 0, 0, 0, 0, 0), (27, .aload_n 0, 28, 0, 0, 0, 0, 0), (28, .getfield 299, 31, 916, 0, 0, 6, 34), (31, .putfield 114, 34, 889, 0, 0, 6, 7), (34, .return_, 35, 0, 0, 0, 0, 0)]
def tX7_doneMany : List E8 := [(0, .iconst 0, 1, 0, 0, 0, 0, 0), (1, .istore_n 1, 2, 0, 0, 0, 0, 1), (2, .iconst 0, 3, 0, 0, 0, 0, 0), (3, .istore_n 2, 4, 0, 0, 0, 0, 2), (4, .iload_n 2, 5, 0, 0, 0, 0, 2), (5, .aload_n 0, 6, 0, 0, 0, 0, 0), (6, .getfield 93, 9, 896, 0, 0, 6, 14), (9, .if_icmp .ge 31, 12, 40, 0, 0, 0, 0), (12, .iload_n 1, 13, 0, 0, 0, 0, 1), (13, .aload_n 0, 14, 0, 0, 0, 0, 0), (14, .getfield 35, 17, 895, 0, 0, 6, 13), (17, .iconst 3, 18, 0, 3, 0, 0, 0), (18, .iload_n 2, 19, 0, 0, 0, 0, 2), (19, .imul, 20, 0, 0, 0, 0, 0), (20, .iconst 2, 21, 0, 2, 0, 0, 0), (21, .iadd, 22, 0, 0, 0, 0, 0), (22, .iaload, 23, 0, 0, 0, 0, 0), (23, .iconst (-1), 24, 0, (-1), 0, 0, 0), (24, .if_icmp .ne 7, 27, 31, 0, 0, 0, 0), (27, .iconst 0, 28, 0, 0, 0, 0, 0), (28, .goto 4, 31, 32, 0, 0, 0, 0), (31, .iconst 1, 32, 0, 1, 0, 0, 0), (32, .iadd, 33, 0, 0, 0, 0, 0), (33, .istore_n 1, 34, 0, 0, 0, 0, 1), (34, .iinc 2 1, 37, 0, 1, 0, 0, 0), (37, .goto (-33), 40, 4, 0, 0, 0, 0), (40, .iload_n 1, 41, 0, 0, 0, 0, 1), (41, .ireturn, 42, 0, 0, 0, 0, 0)]
def tX7_run : List E8 := [(0, .iload_n 1, 1, 0, 0, 0, 0, 1), (1, .i2l, 2, 0, 0, 0, 0, 0), (2, .lconst 0, 3, 0, 0, 0, 0, 0), (3, .ldc2_w 302, 6, 1238, 0, 40, 0, 0), (6, .invokestatic 89, 9, 1055, 0, 0, 0, 0), (9, .ifCond .eq 38, 12, 47, 0, 0, 0, 0), (12, .iload_n 2, 13, 0, 0, 0, 0, 2), (13, .i2l, 14, 0, 0, 0, 0, 0), (14, .lconst 0, 15, 0, 0, 0, 0, 0), (15, .lconst 1, 16, 0, 0, 1, 0, 0), (16, .invokestatic 89, 19, 1055, 0, 0, 0, 0), (19, .ifCond .ne 31, 22, 50, 0, 0, 0, 0), (22, .iload_n 2, 23, 0, 0, 0, 0, 2), (23, .i2l, 24, 0, 0, 0, 0, 0), (24, .ldc2_w 126, 27, 1069, 0, 10, 0, 0), (27, .ldc2_w 304, 30, 1239, 0, 15, 0, 0), (30, .invokestatic 89, 33, 1055, 0, 0, 0, 0), (33, .ifCond .eq 14, 36, 47, 0, 0, 0, 0), (36, .aload_n 0, 37, 0, 0, 0, 0, 0), (37, .iload_n 2, 38, 0, 0, 0, 0, 2), (38, .bipush 10, 40, 0, 10, 0, 0, 0), (40, .isub, 41, 0, 0, 0, 0, 0), (41, .invokevirtual 128, 44, 1070, 0, 0, 0, 0), (44, .ifCond .ne 6, 47, 50, 0, 0, 0, 0), (47, .bipush (-2), 49, 0, (-2), 0, 0, 0), (49, .ireturn, 50, 0, 0, 0, 0, 0), (50, .aload_n 0, 51, 0, 0, 0, 0, 0), (51, .invokevirtual 306, 54, 1240, 0, 0, 0, 0), (54, .iconst 0, 55, 0, 0, 0, 0, 0), (55, .istore_n 3, 56, 0, 0, 0, 0, 3), (56, .iload_n 3, 57, 0, 0, 0, 0, 3), (57, .iload_n 1, 58, 0, 0, 0, 0, 1), (58, .if_icmp .ge 14, 61, 72, 0, 0, 0, 0), (61, .aload_n 0, 62, 0, 0, 0, 0, 0), (62, .invokevirtual 296, 65, 1230, 0, 0, 0, 0), (65, .pop, 66, 0, 0, 0, 0, 0), (66, .iinc 3 1, 69, 0, 1, 0, 0, 0), (69, .goto (-13), 72, 56, 0, 0, 0, 0), (72, .iload_n 2, 73, 0, 0, 0, 0, 2), (73, .ifCond .ne 10, 76, 83, 0, 0, 0, 0), (76, .aload_n 0, 77, 0, 0, 0, 0, 0), (77, .invokevirtual 309, 80, 1244, 0, 0, 0, 0), (80, .goto 28, 83, 108, 0, 0, 0, 0), (83, .iload_n 2, 84, 0, 0, 0, 0, 2), (84, .iconst 1, 85, 0, 1, 0, 0, 0), (85, .if_icmp .ne 10, 88, 95, 0, 0, 0, 0), (88, .aload_n 0, 89, 0, 0, 0, 0, 0), (89, .getfield 293, 92, 914, 0, 0, 6, 32), (92, .goto 16, 95, 108, 0, 0, 0, 0), (95, .aload_n 0, 96, 0, 0, 0, 0, 0), (96, .getfield 35, 99, 895, 0, 0, 6, 13), (99, .iconst 3, 100, 0, 3, 0, 0, 0), (100, .iload_n 2, 101, 0, 0, 0, 0, 2), (101, .bipush 10, 103, 0, 10, 0, 0, 0), (103, .isub, 104, 0, 0, 0, 0, 0), (104, .imul, 105, 0, 0, 0, 0, 0), (105, .iconst 2, 106, 0, 2, 0, 0, 0), (106, .iadd, 107, 0, 0, 0, 0, 0), (107, .iaload, 108, 0, 0, 0, 0, 0), (108, .istore_n 3, 109, 0, 0, 0, 0, 3), (109, .aload_n 0, 110, 0, 0, 0, 0, 0), (110, .invokevirtual 312, 113, 1248, 0, 0, 0, 0), (113, .iload_n 3, 114, 0, 0, 0, 0, 3), (114, .ireturn, 115, 0, 0, 0, 0, 0)]
def tX7_shortest : List E8 := [(0, .iload_n 1, 1, 0, 0, 0, 0, 1), (1, .i2l, 2, 0, 0, 0, 0, 0), (2, .lconst 0, 3, 0, 0, 0, 0, 0), (3, .lconst 1, 4, 0, 0, 1, 0, 0), (4, .invokestatic 89, 7, 1055, 0, 0, 0, 0), (7, .ifCond .ne 6, 10, 13, 0, 0, 0, 0), (10, .bipush (-2), 12, 0, (-2), 0, 0, 0), (12, .ireturn, 13, 0, 0, 0, 0, 0), (13, .iconst 0, 14, 0, 0, 0, 0, 0), (14, .istore_n 2, 15, 0, 0, 0, 0, 2), (15, .aload_n 0, 16, 0, 0, 0, 0, 0), (16, .iconst 0, 17, 0, 0, 0, 0, 0), (17, .iconst 2, 18, 0, 2, 0, 0, 0), (18, .invokevirtual 282, 21, 1218, 0, 0, 0, 0), (21, .istore_n 3, 22, 0, 0, 0, 0, 3), (22, .iconst 1, 23, 0, 1, 0, 0, 0), (23, .istore 4, 25, 0, 0, 0, 0, 4), (25, .iload 4, 27, 0, 0, 0, 0, 4), (27, .iconst 1, 28, 0, 1, 0, 0, 0), (28, .aload_n 0, 29, 0, 0, 0, 0, 0), (29, .getfield 86, 32, 894, 0, 0, 6, 12), (32, .ishl, 33, 0, 0, 0, 0, 0), (33, .if_icmp .ge 30, 36, 63, 0, 0, 0, 0), (36, .aload_n 0, 37, 0, 0, 0, 0, 0), (37, .iload 4, 39, 0, 0, 0, 0, 4), (39, .iconst 2, 40, 0, 2, 0, 0, 0), (40, .invokevirtual 282, 43, 1218, 0, 0, 0, 0), (43, .istore 5, 45, 0, 0, 0, 0, 5), (45, .iload 5, 47, 0, 0, 0, 0, 5), (47, .iload_n 3, 48, 0, 0, 0, 0, 3), (48, .if_icmp .ge 9, 51, 57, 0, 0, 0, 0), (51, .iload 4, 53, 0, 0, 0, 0, 4), (53, .istore_n 2, 54, 0, 0, 0, 0, 2), (54, .iload 5, 56, 0, 0, 0, 0, 5), (56, .istore_n 3, 57, 0, 0, 0, 0, 3), (57, .iinc 4 1, 60, 0, 1, 0, 0, 0), (60, .goto (-35), 63, 25, 0, 0, 0, 0), (63, .iload_n 1, 64, 0, 0, 0, 0, 1), (64, .ifCond .ne 7, 67, 71, 0, 0, 0, 0), (67, .iload_n 2, 68, 0, 0, 0, 0, 2), (68, .goto 4, 71, 72, 0, 0, 0, 0), (71, .iload_n 3, 72, 0, 0, 0, 0, 3), (72, .ireturn, 73, 0, 0, 0, 0, 0)]
def tX7_fewest : List E8 := [(0, .iload_n 1, 1, 0, 0, 0, 0, 1), (1, .i2l, 2, 0, 0, 0, 0, 0), (2, .lconst 0, 3, 0, 0, 0, 0, 0), (3, .ldc2_w 124, 6, 1190, 0, 999, 0, 0), (6, .invokestatic 89, 9, 1055, 0, 0, 0, 0), (9, .ifCond .ne 6, 12, 15, 0, 0, 0, 0), (12, .bipush (-2), 14, 0, (-2), 0, 0, 0), (14, .ireturn, 15, 0, 0, 0, 0, 0), (15, .iconst (-1), 16, 0, (-1), 0, 0, 0), (16, .istore_n 2, 17, 0, 0, 0, 0, 2), (17, .iconst 0, 18, 0, 0, 0, 0, 0), (18, .istore_n 3, 19, 0, 0, 0, 0, 3), (19, .iload_n 3, 20, 0, 0, 0, 0, 3), (20, .iconst 1, 21, 0, 1, 0, 0, 0), (21, .aload_n 0, 22, 0, 0, 0, 0, 0), (22, .getfield 86, 25, 894, 0, 0, 6, 12), (25, .ishl, 26, 0, 0, 0, 0, 0), (26, .if_icmp .ge 37, 29, 63, 0, 0, 0, 0), (29, .iload_n 2, 30, 0, 0, 0, 0, 2), (30, .iconst (-1), 31, 0, (-1), 0, 0, 0), (31, .if_icmp .eq 14, 34, 45, 0, 0, 0, 0), (34, .iload_n 3, 35, 0, 0, 0, 0, 3), (35, .invokestatic 139, 38, 1165, 0, 0, 0, 0), (38, .iload_n 2, 39, 0, 0, 0, 0, 2), (39, .invokestatic 139, 42, 1165, 0, 0, 0, 0), (42, .if_icmp .le 15, 45, 57, 0, 0, 0, 0), (45, .aload_n 0, 46, 0, 0, 0, 0, 0), (46, .iload_n 3, 47, 0, 0, 0, 0, 3), (47, .iconst 2, 48, 0, 2, 0, 0, 0), (48, .invokevirtual 282, 51, 1218, 0, 0, 0, 0), (51, .iload_n 1, 52, 0, 0, 0, 0, 1), (52, .if_icmp .gt 5, 55, 57, 0, 0, 0, 0), (55, .iload_n 3, 56, 0, 0, 0, 0, 3), (56, .istore_n 2, 57, 0, 0, 0, 0, 2), (57, .iinc 3 1, 60, 0, 1, 0, 0, 0), (60, .goto (-41), 63, 19, 0, 0, 0, 0), (63, .iload_n 2, 64, 0, 0, 0, 0, 2), (64, .ireturn, 65, 0, 0, 0, 0, 0)]
def tX7_doneAt : List E8 := [(0, .aload_n 0, 1, 0, 0, 0, 0, 0), (1, .bipush 40, 3, 0, 40, 0, 0, 0), (3, .bipush 10, 5, 0, 10, 0, 0, 0), (5, .iload_n 1, 6, 0, 0, 0, 0, 1), (6, .iadd, 7, 0, 0, 0, 0, 0), (7, .invokevirtual 315, 10, 1268, 0, 0, 0, 0), (10, .ireturn, 11, 0, 0, 0, 0, 0)]
def tX7_soonest : List E8 := [(0, .aload_n 0, 1, 0, 0, 0, 0, 0), (1, .iload_n 1, 2, 0, 0, 0, 0, 1), (2, .invokevirtual 128, 5, 1070, 0, 0, 0, 0), (5, .ifCond .eq 13, 8, 18, 0, 0, 0, 0), (8, .iload_n 2, 9, 0, 0, 0, 0, 2), (9, .i2l, 10, 0, 0, 0, 0, 0), (10, .lconst 0, 11, 0, 0, 0, 0, 0), (11, .lconst 1, 12, 0, 0, 1, 0, 0), (12, .invokestatic 89, 15, 1055, 0, 0, 0, 0), (15, .ifCond .ne 6, 18, 21, 0, 0, 0, 0), (18, .bipush (-2), 20, 0, (-2), 0, 0, 0), (20, .ireturn, 21, 0, 0, 0, 0, 0), (21, .iconst (-1), 22, 0, (-1), 0, 0, 0), (22, .istore_n 3, 23, 0, 0, 0, 0, 3), (23, .aload_n 0, 24, 0, 0, 0, 0, 0), (24, .iload_n 1, 25, 0, 0, 0, 0, 1), (25, .invokevirtual 318, 28, 1264, 0, 0, 0, 0), (28, .istore 4, 30, 0, 0, 0, 0, 4), (30, .iconst 0, 31, 0, 0, 0, 0, 0), (31, .istore 5, 33, 0, 0, 0, 0, 5), (33, .iload 5, 35, 0, 0, 0, 0, 5), (35, .aload_n 0, 36, 0, 0, 0, 0, 0), (36, .getfield 86, 39, 894, 0, 0, 6, 12), (39, .if_icmp .ge 69, 42, 108, 0, 0, 0, 0), (42, .aload_n 0, 43, 0, 0, 0, 0, 0), (43, .getfield 32, 46, 893, 0, 0, 6, 11), (46, .iload 5, 48, 0, 0, 0, 0, 5), (48, .iaload, 49, 0, 0, 0, 0, 0), (49, .istore 6, 51, 0, 0, 0, 0, 6), (51, .aload_n 0, 52, 0, 0, 0, 0, 0), (52, .getfield 32, 55, 893, 0, 0, 6, 11), (55, .iload 5, 57, 0, 0, 0, 0, 5), (57, .bipush 99, 59, 0, 99, 0, 0, 0), (59, .iastore, 60, 0, 0, 0, 0, 0), (60, .aload_n 0, 61, 0, 0, 0, 0, 0), (61, .iload_n 1, 62, 0, 0, 0, 0, 1), (62, .invokevirtual 318, 65, 1264, 0, 0, 0, 0), (65, .istore 7, 67, 0, 0, 0, 0, 7), (67, .aload_n 0, 68, 0, 0, 0, 0, 0), (68, .getfield 32, 71, 893, 0, 0, 6, 11), (71, .iload 5, 73, 0, 0, 0, 0, 5), (73, .iload 6, 75, 0, 0, 0, 0, 6), (75, .iastore, 76, 0, 0, 0, 0, 0), (76, .iload 7, 78, 0, 0, 0, 0, 7), (78, .iconst (-1), 79, 0, (-1), 0, 0, 0), (79, .if_icmp .eq 23, 82, 102, 0, 0, 0, 0), (82, .iload 4, 84, 0, 0, 0, 0, 4), (84, .iconst (-1), 85, 0, (-1), 0, 0, 0), (85, .if_icmp .eq 10, 88, 95, 0, 0, 0, 0), (88, .iload 7, 90, 0, 0, 0, 0, 7), (90, .iload 4, 92, 0, 0, 0, 0, 4), (92, .if_icmp .ge 10, 95, 102, 0, 0, 0, 0), (95, .iload 5, 97, 0, 0, 0, 0, 5), (97, .istore_n 3, 98, 0, 0, 0, 0, 3), (98, .iload 7, 100, 0, 0, 0, 0, 7), (100, .istore 4, 102, 0, 0, 0, 0, 4), (102, .iinc 5 1, 105, 0, 1, 0, 0, 0), (105, .goto (-72), 108, 33, 0, 0, 0, 0), (108, .iload_n 2, 109, 0, 0, 0, 0, 2), (109, .ifCond .ne 7, 112, 116, 0, 0, 0, 0), (112, .iload_n 3, 113, 0, 0, 0, 0, 3), (113, .goto 5, 116, 118, 0, 0, 0, 0), (116, .iload 4, 118, 0, 0, 0, 0, 4), (118, .ireturn, 119, 0, 0, 0, 0, 0)]
def tX7_bribe : List E8 := [(0, .aload_n 0, 1, 0, 0, 0, 0, 0), (1, .iload_n 1, 2, 0, 0, 0, 0, 1), (2, .invokevirtual 98, 5, 1058, 0, 0, 0, 0), (5, .ifCond .ne 6, 8, 11, 0, 0, 0, 0), (8, .bipush (-2), 10, 0, (-2), 0, 0, 0), (10, .ireturn, 11, 0, 0, 0, 0, 0), (11, .aload_n 0, 12, 0, 0, 0, 0, 0), (12, .getfield 32, 15, 893, 0, 0, 6, 11), (15, .iload_n 1, 16, 0, 0, 0, 0, 1), (16, .iaload, 17, 0, 0, 0, 0, 0), (17, .istore_n 2, 18, 0, 0, 0, 0, 2), (18, .iconst (-1), 19, 0, (-1), 0, 0, 0), (19, .istore_n 3, 20, 0, 0, 0, 0, 3), (20, .iconst 0, 21, 0, 0, 0, 0, 0), (21, .istore 4, 23, 0, 0, 0, 0, 4), (23, .iload 4, 25, 0, 0, 0, 0, 4), (25, .bipush 100, 27, 0, 100, 0, 0, 0), (27, .if_icmp .ge 41, 30, 68, 0, 0, 0, 0), (30, .iload_n 3, 31, 0, 0, 0, 0, 3), (31, .iconst (-1), 32, 0, (-1), 0, 0, 0), (32, .if_icmp .ne 36, 35, 68, 0, 0, 0, 0), (35, .aload_n 0, 36, 0, 0, 0, 0, 0), (36, .getfield 32, 39, 893, 0, 0, 6, 11), (39, .iload_n 1, 40, 0, 0, 0, 0, 1), (40, .iload 4, 42, 0, 0, 0, 0, 4), (42, .iastore, 43, 0, 0, 0, 0, 0), (43, .aload_n 0, 44, 0, 0, 0, 0, 0), (44, .invokevirtual 135, 47, 1076, 0, 0, 0, 0), (47, .iload_n 1, 48, 0, 0, 0, 0, 1), (48, .ishr, 49, 0, 0, 0, 0, 0), (49, .iconst 1, 50, 0, 1, 0, 0, 0), (50, .iand, 51, 0, 0, 0, 0, 0), (51, .iconst 1, 52, 0, 1, 0, 0, 0), (52, .if_icmp .ne 8, 55, 60, 0, 0, 0, 0), (55, .iload 4, 57, 0, 0, 0, 0, 4), (57, .goto 4, 60, 61, 0, 0, 0, 0), (60, .iconst (-1), 61, 0, (-1), 0, 0, 0), (61, .istore_n 3, 62, 0, 0, 0, 0, 3), (62, .iinc 4 1, 65, 0, 1, 0, 0, 0), (65, .goto (-42), 68, 23, 0, 0, 0, 0), (68, .aload_n 0, 69, 0, 0, 0, 0, 0), (69, .getfield 32, 72, 893, 0, 0, 6, 11), (72, .iload_n 1, 73, 0, 0, 0, 0, 1), (73, .iload_n 2, 74, 0, 0, 0, 0, 2), (74, .iastore, 75, 0, 0, 0, 0, 0), (75, .iload_n 3, 76, 0, 0, 0, 0, 3), (76, .ireturn, 77, 0, 0, 0, 0, 0)]
def tX7_sittingFor : List E8 := [(0, .iconst 0, 1, 0, 0, 0, 0, 0), (1, .istore_n 2, 2, 0, 0, 0, 0, 2), (2, .iload_n 2, 3, 0, 0, 0, 0, 2), (3, .bipush 40, 5, 0, 40, 0, 0, 0), (5, .if_icmp .ge 21, 8, 26, 0, 0, 0, 0), (8, .aload_n 0, 9, 0, 0, 0, 0, 0), (9, .getfield 48, 12, 917, 0, 0, 6, 35), (12, .iload_n 2, 13, 0, 0, 0, 0, 2), (13, .iconst 1, 14, 0, 1, 0, 0, 0), (14, .iadd, 15, 0, 0, 0, 0, 0), (15, .iaload, 16, 0, 0, 0, 0, 0), (16, .iload_n 1, 17, 0, 0, 0, 0, 1), (17, .if_icmp .ge 9, 20, 26, 0, 0, 0, 0), (20, .iinc 2 1, 23, 0, 1, 0, 0, 0), (23, .goto (-21), 26, 2, 0, 0, 0, 0), (26, .aload_n 0, 27, 0, 0, 0, 0, 0), (27, .getfield 114, 30, 889, 0, 0, 6, 7), (30, .iload_n 2, 31, 0, 0, 0, 0, 2), (31, .iadd, 32, 0, 0, 0, 0, 0), (32, .ireturn, 33, 0, 0, 0, 0, 0)]
def tX7_seeks : List E8 := [(0, .iload_n 1, 1, 0, 0, 0, 0, 1), (1, .iconst 1, 2, 0, 1, 0, 0, 0), (2, .aload_n 0, 3, 0, 0, 0, 0, 0), (3, .getfield 93, 6, 896, 0, 0, 6, 14), (6, .ishl, 7, 0, 0, 0, 0, 0), (7, .iconst 1, 8, 0, 1, 0, 0, 0), (8, .isub, 9, 0, 0, 0, 0, 0), (9, .if_icmp .ne 31, 12, 40, 0, 0, 0, 0), (12, .aload_n 0, 13, 0, 0, 0, 0, 0), (13, .getfield 321, 16, 918, 0, 0, 6, 36), (16, .iconst (-1), 17, 0, (-1), 0, 0, 0), (17, .if_icmp .eq 11, 20, 28, 0, 0, 0, 0), (20, .iload_n 3, 21, 0, 0, 0, 0, 3), (21, .aload_n 0, 22, 0, 0, 0, 0, 0), (22, .getfield 324, 25, 919, 0, 0, 6, 37), (25, .if_icmp .ge 14, 28, 39, 0, 0, 0, 0), (28, .aload_n 0, 29, 0, 0, 0, 0, 0), (29, .iload 4, 31, 0, 0, 0, 0, 4), (31, .putfield 321, 34, 918, 0, 0, 6, 36), (34, .aload_n 0, 35, 0, 0, 0, 0, 0), (35, .iload_n 3, 36, 0, 0, 0, 0, 3), (36, .putfield 324, 39, 919, 0, 0, 6, 37), (39, .return_, 40, 0, 0, 0, 0, 0), (40, .iconst 0, 41, 0, 0, 0, 0, 0), (41, .istore 5, 43, 0, 0, 0, 0, 5), (43, .iload 5, 45, 0, 0, 0, 0, 5), (45, .aload_n 0, 46, 0, 0, 0, 0, 0), (46, .getfield 93, 49, 896, 0, 0, 6, 14), (49, .if_icmp .ge 73, 52, 122, 0, 0, 0, 0), (52, .iload_n 1, 53, 0, 0, 0, 0, 1), (53, .iload 5, 55, 0, 0, 0, 0, 5), (55, .ishr, 56, 0, 0, 0, 0, 0), (56, .iconst 1, 57, 0, 1, 0, 0, 0), (57, .iand, 58, 0, 0, 0, 0, 0), (58, .ifCond .ne 58, 61, 116, 0, 0, 0, 0), (61, .iload_n 2, 62, 0, 0, 0, 0, 2), (62, .aload_n 0, 63, 0, 0, 0, 0, 0), (63, .getfield 35, 66, 895, 0, 0, 6, 13), (66, .iconst 3, 67, 0, 3, 0, 0, 0), (67, .iload 5, 69, 0, 0, 0, 0, 5), (69, .imul, 70, 0, 0, 0, 0, 0), (70, .iaload, 71, 0, 0, 0, 0, 0), (71, .iadd, 72, 0, 0, 0, 0, 0), (72, .aload_n 0, 73, 0, 0, 0, 0, 0), (73, .getfield 35, 76, 895, 0, 0, 6, 13), (76, .iconst 3, 77, 0, 3, 0, 0, 0), (77, .iload 5, 79, 0, 0, 0, 0, 5), (79, .imul, 80, 0, 0, 0, 0, 0), (80, .iconst 1, 81, 0, 1, 0, 0, 0), (81, .iadd, 82, 0, 0, 0, 0, 0), (82, .iaload, 83, 0, 0, 0, 0, 0), (83, .isub, 84, 0, 0, 0, 0, 0), (84, .istore 6, 86, 0, 0, 0, 0, 6), (86, .aload_n 0, 87, 0, 0, 0, 0, 0), (87, .iload_n 1, 88, 0, 0, 0, 0, 1), (88, .iconst 1, 89, 0, 1, 0, 0, 0), (89, .iload 5, 91, 0, 0, 0, 0, 5), (91, .ishl, 92, 0, 0, 0, 0, 0), (92, .ior, 93, 0, 0, 0, 0, 0), (93, .iload 6, 95, 0, 0, 0, 0, 6), (95, .iload_n 3, 96, 0, 0, 0, 0, 3), (96, .aload_n 0, 97, 0, 0, 0, 0, 0), (97, .iload 6, 99, 0, 0, 0, 0, 6), (99, .invokevirtual 327, 102, 1281, 0, 0, 0, 0), (102, .iadd, 103, 0, 0, 0, 0, 0), (103, .bipush 10, 105, 0, 10, 0, 0, 0), (105, .iload 4, 107, 0, 0, 0, 0, 4), (107, .imul, 108, 0, 0, 0, 0, 0), (108, .iload 5, 110, 0, 0, 0, 0, 5), (110, .iadd, 111, 0, 0, 0, 0, 0), (111, .iconst 1, 112, 0, 1, 0, 0, 0), (112, .iadd, 113, 0, 0, 0, 0, 0), (113, .invokevirtual 330, 116, 1277, 0, 0, 0, 0), (116, .iinc 5 1, 119, 0, 1, 0, 0, 0), (119, .goto (-76), 122, 43, 0, 0, 0, 0), (122, .return_, 123, 0, 0, 0, 0, 0)]
def tX7_order : List E8 := [(0, .iload_n 1, 1, 0, 0, 0, 0, 1), (1, .i2l, 2, 0, 0, 0, 0, 0), (2, .lconst 0, 3, 0, 0, 0, 0, 0), (3, .lconst 1, 4, 0, 0, 1, 0, 0), (4, .invokestatic 89, 7, 1055, 0, 0, 0, 0), (7, .ifCond .ne 6, 10, 13, 0, 0, 0, 0), (10, .bipush (-2), 12, 0, (-2), 0, 0, 0), (12, .ireturn, 13, 0, 0, 0, 0, 0), (13, .aload_n 0, 14, 0, 0, 0, 0, 0), (14, .getfield 114, 17, 889, 0, 0, 6, 7), (17, .istore_n 2, 18, 0, 0, 0, 0, 2), (18, .aload_n 0, 19, 0, 0, 0, 0, 0), (19, .getfield 48, 22, 917, 0, 0, 6, 35), (22, .iconst 0, 23, 0, 0, 0, 0, 0), (23, .iconst 0, 24, 0, 0, 0, 0, 0), (24, .iastore, 25, 0, 0, 0, 0, 0), (25, .iconst 0, 26, 0, 0, 0, 0, 0), (26, .istore_n 3, 27, 0, 0, 0, 0, 3), (27, .iload_n 3, 28, 0, 0, 0, 0, 3), (28, .bipush 40, 30, 0, 40, 0, 0, 0), (30, .if_icmp .ge 38, 33, 68, 0, 0, 0, 0), (33, .aload_n 0, 34, 0, 0, 0, 0, 0), (34, .getfield 48, 37, 917, 0, 0, 6, 35), (37, .iload_n 3, 38, 0, 0, 0, 0, 3), (38, .iconst 1, 39, 0, 1, 0, 0, 0), (39, .iadd, 40, 0, 0, 0, 0, 0), (40, .aload_n 0, 41, 0, 0, 0, 0, 0), (41, .getfield 48, 44, 917, 0, 0, 6, 35), (44, .iload_n 3, 45, 0, 0, 0, 0, 3), (45, .iaload, 46, 0, 0, 0, 0, 0), (46, .aload_n 0, 47, 0, 0, 0, 0, 0), (47, .invokevirtual 290, 50, 1210, 0, 0, 0, 0), (50, .iadd, 51, 0, 0, 0, 0, 0), (51, .iastore, 52, 0, 0, 0, 0, 0), (52, .aload_n 0, 53, 0, 0, 0, 0, 0), (53, .dup, 54, 0, 0, 0, 0, 0), (54, .getfield 114, 57, 889, 0, 0, 6, 7), (57, .iconst 1, 58, 0, 1, 0, 0, 0), (58, .iadd, 59, 0, 0, 0, 0, 0), (59, .putfield 114, 62, 889, 0, 0, 6, 7), (62, .iinc 3 1, 65, 0, 1, 0, 0, 0), (65, .goto (-38), 68, 27, 0, 0, 0, 0), (68, .aload_n 0, 69, 0, 0, 0, 0, 0), (69, .iload_n 2, 70, 0, 0, 0, 0, 2), (70, .putfield 114, 73, 889, 0, 0, 6, 7), (73, .iconst 0, 74, 0, 0, 0, 0, 0), (74, .istore_n 3, 75, 0, 0, 0, 0, 3), (75, .iconst 0, 76, 0, 0, 0, 0, 0), (76, .istore 4, 78, 0, 0, 0, 0, 4), (78, .iload 4, 80, 0, 0, 0, 0, 4), (80, .aload_n 0, 81, 0, 0, 0, 0, 0), (81, .getfield 93, 84, 896, 0, 0, 6, 14), (84, .if_icmp .ge 35, 87, 119, 0, 0, 0, 0), (87, .iload_n 3, 88, 0, 0, 0, 0, 3), (88, .aload_n 0, 89, 0, 0, 0, 0, 0), (89, .getfield 35, 92, 895, 0, 0, 6, 13), (92, .iconst 3, 93, 0, 3, 0, 0, 0), (93, .iload 4, 95, 0, 0, 0, 0, 4), (95, .imul, 96, 0, 0, 0, 0, 0), (96, .iconst 2, 97, 0, 2, 0, 0, 0), (97, .iadd, 98, 0, 0, 0, 0, 0), (98, .iaload, 99, 0, 0, 0, 0, 0), (99, .iconst (-1), 100, 0, (-1), 0, 0, 0), (100, .if_icmp .ne 7, 103, 107, 0, 0, 0, 0), (103, .iconst 0, 104, 0, 0, 0, 0, 0), (104, .goto 4, 107, 108, 0, 0, 0, 0), (107, .iconst 1, 108, 0, 1, 0, 0, 0), (108, .iload 4, 110, 0, 0, 0, 0, 4), (110, .ishl, 111, 0, 0, 0, 0, 0), (111, .ior, 112, 0, 0, 0, 0, 0), (112, .istore_n 3, 113, 0, 0, 0, 0, 3), (113, .iinc 4 1, 116, 0, 1, 0, 0, 0), (116, .goto (-38), 119, 78, 0, 0, 0, 0), (119, .aload_n 0, 120, 0, 0, 0, 0, 0), (120, .iconst (-1), 121, 0, (-1), 0, 0, 0), (121, .putfield 321, 124, 918, 0, 0, 6, 36), (124, .aload_n 0, 125, 0, 0, 0, 0, 0), (125, .iconst 0, 126, 0, 0, 0, 0, 0), (126, .putfield 324, 129, 919, 0, 0, 6, 37), (129, .aload_n 0, 130, 0, 0, 0, 0, 0), (130, .iload_n 3, 131, 0, 0, 0, 0, 3), (131, .iconst 0, 132, 0, 0, 0, 0, 0), (132, .iconst 0, 133, 0, 0, 0, 0, 0), (133, .iconst 0, 134, 0, 0, 0, 0, 0), (134, .invokevirtual 330, 137, 1277, 0, 0, 0, 0), (137, .iload_n 1, 138, 0, 0, 0, 0, 1), (138, .ifCond .ne 10, 141, 148, 0, 0, 0, 0), (141, .aload_n 0, 142, 0, 0, 0, 0, 0), (142, .getfield 321, 145, 918, 0, 0, 6, 36), (145, .goto 7, 148, 152, 0, 0, 0, 0), (148, .aload_n 0, 149, 0, 0, 0, 0, 0), (149, .getfield 324, 152, 919, 0, 0, 6, 37), (152, .ireturn, 153, 0, 0, 0, 0, 0)]
def tX7_turned : List E8 := [(0, .iload_n 1, 1, 0, 0, 0, 0, 1), (1, .i2l, 2, 0, 0, 0, 0, 0), (2, .lconst 0, 3, 0, 0, 0, 0, 0), (3, .lconst 1, 4, 0, 0, 1, 0, 0), (4, .invokestatic 89, 7, 1055, 0, 0, 0, 0), (7, .ifCond .ne 6, 10, 13, 0, 0, 0, 0), (10, .bipush (-2), 12, 0, (-2), 0, 0, 0), (12, .ireturn, 13, 0, 0, 0, 0, 0), (13, .aload_n 0, 14, 0, 0, 0, 0, 0), (14, .invokevirtual 135, 17, 1076, 0, 0, 0, 0), (17, .istore_n 2, 18, 0, 0, 0, 0, 2), (18, .iconst (-1), 19, 0, (-1), 0, 0, 0), (19, .istore_n 3, 20, 0, 0, 0, 0, 3), (20, .iconst (-1), 21, 0, (-1), 0, 0, 0), (21, .istore 4, 23, 0, 0, 0, 0, 4), (23, .iconst 0, 24, 0, 0, 0, 0, 0), (24, .istore 5, 26, 0, 0, 0, 0, 5), (26, .iload 5, 28, 0, 0, 0, 0, 5), (28, .aload_n 0, 29, 0, 0, 0, 0, 0), (29, .getfield 86, 32, 894, 0, 0, 6, 12), (32, .if_icmp .ge 41, 35, 73, 0, 0, 0, 0), (35, .aload_n 0, 36, 0, 0, 0, 0, 0), (36, .iload_n 2, 37, 0, 0, 0, 0, 2), (37, .iconst 1, 38, 0, 1, 0, 0, 0), (38, .iload 5, 40, 0, 0, 0, 0, 5), (40, .ishl, 41, 0, 0, 0, 0, 0), (41, .ixor, 42, 0, 0, 0, 0, 0), (42, .iconst 2, 43, 0, 2, 0, 0, 0), (43, .invokevirtual 282, 46, 1218, 0, 0, 0, 0), (46, .istore 6, 48, 0, 0, 0, 0, 6), (48, .iload_n 3, 49, 0, 0, 0, 0, 3), (49, .iconst (-1), 50, 0, (-1), 0, 0, 0), (50, .if_icmp .eq 10, 53, 60, 0, 0, 0, 0), (53, .iload 6, 55, 0, 0, 0, 0, 6), (55, .iload 4, 57, 0, 0, 0, 0, 4), (57, .if_icmp .ge 10, 60, 67, 0, 0, 0, 0), (60, .iload 5, 62, 0, 0, 0, 0, 5), (62, .istore_n 3, 63, 0, 0, 0, 0, 3), (63, .iload 6, 65, 0, 0, 0, 0, 6), (65, .istore 4, 67, 0, 0, 0, 0, 4), (67, .iinc 5 1, 70, 0, 1, 0, 0, 0), (70, .goto (-44), 73, 26, 0, 0, 0, 0), (73, .iload_n 1, 74, 0, 0, 0, 0, 1), (74, .ifCond .ne 7, 77, 81, 0, 0, 0, 0), (77, .iload_n 3, 78, 0, 0, 0, 0, 3), (78, .goto 5, 81, 83, 0, 0, 0, 0), (81, .iload 4, 83, 0, 0, 0, 0, 4), (83, .ireturn, 84, 0, 0, 0, 0, 0)]
def tX7_looks : List E8 := [(0, .aload_n 0, 1, 0, 0, 0, 0, 0), (1, .iconst 0, 2, 0, 0, 0, 0, 0), (2, .putfield 334, 5, 920, 0, 0, 6, 38), (5, .aload_n 0, 6, 0, 0, 0, 0, 0), (6, .iconst (-1), 7, 0, (-1), 0, 0, 0), (7, .putfield 337, 10, 921, 0, 0, 6, 39), (10, .aload_n 0, 11, 0, 0, 0, 0, 0), (11, .iconst 1, 12, 0, 1, 0, 0, 0), (12, .aload_n 0, 13, 0, 0, 0, 0, 0), (13, .getfield 86, 16, 894, 0, 0, 6, 12), (16, .ishl, 17, 0, 0, 0, 0, 0), (17, .iconst 1, 18, 0, 1, 0, 0, 0), (18, .isub, 19, 0, 0, 0, 0, 0), (19, .putfield 340, 22, 922, 0, 0, 6, 40), (22, .aload_n 0, 23, 0, 0, 0, 0, 0), (23, .iconst 0, 24, 0, 0, 0, 0, 0), (24, .putfield 343, 27, 923, 0, 0, 6, 41), (27, .iconst 0, 28, 0, 0, 0, 0, 0), (28, .istore_n 2, 29, 0, 0, 0, 0, 2), (29, .iload_n 2, 30, 0, 0, 0, 0, 2), (30, .iconst 1, 31, 0, 1, 0, 0, 0), (31, .aload_n 0, 32, 0, 0, 0, 0, 0), (32, .getfield 86, 35, 894, 0, 0, 6, 12), (35, .ishl, 36, 0, 0, 0, 0, 0), (36, .if_icmp .ge 69, 39, 105, 0, 0, 0, 0), (39, .aload_n 0, 40, 0, 0, 0, 0, 0), (40, .iload_n 2, 41, 0, 0, 0, 0, 2), (41, .iconst 2, 42, 0, 2, 0, 0, 0), (42, .invokevirtual 282, 45, 1218, 0, 0, 0, 0), (45, .iload_n 1, 46, 0, 0, 0, 0, 1), (46, .if_icmp .ne 53, 49, 99, 0, 0, 0, 0), (49, .aload_n 0, 50, 0, 0, 0, 0, 0), (50, .dup, 51, 0, 0, 0, 0, 0), (51, .getfield 334, 54, 920, 0, 0, 6, 38), (54, .iconst 1, 55, 0, 1, 0, 0, 0), (55, .iadd, 56, 0, 0, 0, 0, 0), (56, .putfield 334, 59, 920, 0, 0, 6, 38), (59, .aload_n 0, 60, 0, 0, 0, 0, 0), (60, .aload_n 0, 61, 0, 0, 0, 0, 0), (61, .getfield 337, 64, 921, 0, 0, 6, 39), (64, .iconst (-1), 65, 0, (-1), 0, 0, 0), (65, .if_icmp .ne 7, 68, 72, 0, 0, 0, 0), (68, .iload_n 2, 69, 0, 0, 0, 0, 2), (69, .goto 7, 72, 76, 0, 0, 0, 0), (72, .aload_n 0, 73, 0, 0, 0, 0, 0), (73, .getfield 337, 76, 921, 0, 0, 6, 39), (76, .putfield 337, 79, 921, 0, 0, 6, 39), (79, .aload_n 0, 80, 0, 0, 0, 0, 0), (80, .dup, 81, 0, 0, 0, 0, 0), (81, .getfield 340, 84, 922, 0, 0, 6, 40), (84, .iload_n 2, 85, 0, 0, 0, 0, 2), (85, .iand, 86, 0, 0, 0, 0, 0), (86, .putfield 340, 89, 922, 0, 0, 6, 40), (89, .aload_n 0, 90, 0, 0, 0, 0, 0), (90, .dup, 91, 0, 0, 0, 0, 0), (91, .getfield 343, 94, 923, 0, 0, 6, 41), (94, .iload_n 2, 95, 0, 0, 0, 0, 2), (95, .ior, 96, 0, 0, 0, 0, 0), (96, .putfield 343, 99, 923, 0, 0, 6, 41), (99, .iinc 2 1, 102, 0, 1, 0, 0, 0), (102, .goto (-73), 105, 29, 0, 0, 0, 0), (105, .return_, 106, 0, 0, 0, 0, 0)]
def tX7_tells : List E8 := [(0, .iload_n 2, 1, 0, 0, 0, 0, 2), (1, .i2l, 2, 0, 0, 0, 0, 0), (2, .ldc2_w 126, 5, 1069, 0, 10, 0, 0), (5, .ldc2_w 346, 8, 1293, 0, 49, 0, 0), (8, .invokestatic 89, 11, 1055, 0, 0, 0, 0), (11, .ifCond .eq 18, 14, 29, 0, 0, 0, 0), (14, .aload_n 0, 15, 0, 0, 0, 0, 0), (15, .iload_n 2, 16, 0, 0, 0, 0, 2), (16, .bipush 10, 18, 0, 10, 0, 0, 0), (18, .irem, 19, 0, 0, 0, 0, 0), (19, .invokevirtual 98, 22, 1058, 0, 0, 0, 0), (22, .ifCond .eq 7, 25, 29, 0, 0, 0, 0), (25, .iconst 1, 26, 0, 1, 0, 0, 0), (26, .goto 4, 29, 30, 0, 0, 0, 0), (29, .iconst 0, 30, 0, 0, 0, 0, 0), (30, .istore_n 3, 31, 0, 0, 0, 0, 3), (31, .iload_n 1, 32, 0, 0, 0, 0, 1), (32, .invokestatic 348, 35, 1294, 0, 0, 0, 0), (35, .ifCond .eq 19, 38, 54, 0, 0, 0, 0), (38, .iload_n 2, 39, 0, 0, 0, 0, 2), (39, .i2l, 40, 0, 0, 0, 0, 0), (40, .lconst 0, 41, 0, 0, 0, 0, 0), (41, .ldc2_w 288, 44, 1209, 0, 4, 0, 0), (44, .invokestatic 89, 47, 1055, 0, 0, 0, 0), (47, .ifCond .ne 10, 50, 57, 0, 0, 0, 0), (50, .iload_n 3, 51, 0, 0, 0, 0, 3), (51, .ifCond .ne 6, 54, 57, 0, 0, 0, 0), (54, .bipush (-2), 56, 0, (-2), 0, 0, 0), (56, .ireturn, 57, 0, 0, 0, 0, 0), (57, .aload_n 0, 58, 0, 0, 0, 0, 0), (58, .getfield 66, 61, 933, 0, 0, 6, 51), (61, .iload_n 1, 62, 0, 0, 0, 0, 1), (62, .baload, 63, 0, 0, 0, 0, 0), (63, .ifCond .ne 6, 66, 69, 0, 0, 0, 0), (66, .bipush (-11), 68, 0, (-11), 0, 0, 0), (68, .ireturn, 69, 0, 0, 0, 0, 0), (69, .aload_n 0, 70, 0, 0, 0, 0, 0), (70, .getfield 73, 73, 935, 0, 0, 6, 53), (73, .iload_n 1, 74, 0, 0, 0, 0, 1), (74, .iaload, 75, 0, 0, 0, 0, 0), (75, .iconst 1, 76, 0, 1, 0, 0, 0), (76, .if_icmp .eq 6, 79, 82, 0, 0, 0, 0), (79, .bipush (-2), 81, 0, (-2), 0, 0, 0), (81, .ireturn, 82, 0, 0, 0, 0, 0), (82, .aload_n 0, 83, 0, 0, 0, 0, 0), (83, .getfield 76, 86, 936, 0, 0, 6, 54), (86, .bipush 40, 88, 0, 40, 0, 0, 0), (88, .iload_n 1, 89, 0, 0, 0, 0, 1), (89, .imul, 90, 0, 0, 0, 0, 0), (90, .iaload, 91, 0, 0, 0, 0, 0), (91, .istore 4, 93, 0, 0, 0, 0, 4), (93, .iload_n 2, 94, 0, 0, 0, 0, 2), (94, .iconst 4, 95, 0, 4, 0, 0, 0), (95, .if_icmp .ge 71, 98, 166, 0, 0, 0, 0), (98, .aload_n 0, 99, 0, 0, 0, 0, 0), (99, .iload 4, 101, 0, 0, 0, 0, 4), (101, .invokevirtual 351, 104, 1297, 0, 0, 0, 0), (104, .iload_n 2, 105, 0, 0, 0, 0, 2), (105, .ifCond .ne 10, 108, 115, 0, 0, 0, 0), (108, .aload_n 0, 109, 0, 0, 0, 0, 0), (109, .getfield 334, 112, 920, 0, 0, 6, 38), (112, .goto 53, 115, 165, 0, 0, 0, 0), (115, .iload_n 2, 116, 0, 0, 0, 0, 2), (116, .iconst 1, 117, 0, 1, 0, 0, 0), (117, .if_icmp .ne 10, 120, 127, 0, 0, 0, 0), (120, .aload_n 0, 121, 0, 0, 0, 0, 0), (121, .getfield 337, 124, 921, 0, 0, 6, 39), (124, .goto 41, 127, 165, 0, 0, 0, 0), (127, .aload_n 0, 128, 0, 0, 0, 0, 0), (128, .getfield 334, 131, 920, 0, 0, 6, 38), (131, .ifCond .ne 7, 134, 138, 0, 0, 0, 0), (134, .iconst 0, 135, 0, 0, 0, 0, 0), (135, .goto 30, 138, 165, 0, 0, 0, 0), (138, .iload_n 2, 139, 0, 0, 0, 0, 2), (139, .iconst 2, 140, 0, 2, 0, 0, 0), (140, .if_icmp .ne 10, 143, 150, 0, 0, 0, 0), (143, .aload_n 0, 144, 0, 0, 0, 0, 0), (144, .getfield 340, 147, 922, 0, 0, 6, 40), (147, .goto 18, 150, 165, 0, 0, 0, 0), (150, .iconst 1, 151, 0, 1, 0, 0, 0), (151, .aload_n 0, 152, 0, 0, 0, 0, 0), (152, .getfield 86, 155, 894, 0, 0, 6, 12), (155, .ishl, 156, 0, 0, 0, 0, 0), (156, .iconst 1, 157, 0, 1, 0, 0, 0), (157, .isub, 158, 0, 0, 0, 0, 0), (158, .aload_n 0, 159, 0, 0, 0, 0, 0), (159, .getfield 343, 162, 923, 0, 0, 6, 41), (162, .iconst (-1), 163, 0, (-1), 0, 0, 0), (163, .ixor, 164, 0, 0, 0, 0, 0), (164, .iand, 165, 0, 0, 0, 0, 0), (165, .ireturn, 166, 0, 0, 0, 0, 0), (166, .iload_n 2, 167, 0, 0, 0, 0, 2), (167, .bipush 10, 169, 0, 10, 0, 0, 0), (169, .irem, 170, 0, 0, 0, 0, 0), (170, .istore 5, 172, 0, 0, 0, 0, 5), (172, .iload_n 2, 173, 0, 0, 0, 0, 2), (173, .iconst 4, 174, 0, 4, 0, 0, 0), (174, .if_icmp .ne 7, 177, 181, 0, 0, 0, 0), (177, .iconst 5, 178, 0, 5, 0, 0, 0), (178, .goto 24, 181, 202, 0, 0, 0, 0), (181, .iload_n 2, 182, 0, 0, 0, 0, 2), (182, .bipush 20, 184, 0, 20, 0, 0, 0), (184, .if_icmp .ge 7, 187, 191, 0, 0, 0, 0), (187, .iconst 4, 188, 0, 4, 0, 0, 0), (188, .goto 14, 191, 202, 0, 0, 0, 0), (191, .iload_n 2, 192, 0, 0, 0, 0, 2), (192, .bipush 30, 194, 0, 30, 0, 0, 0), (194, .if_icmp .ge 7, 197, 201, 0, 0, 0, 0), (197, .iconst 2, 198, 0, 2, 0, 0, 0), (198, .goto 4, 201, 202, 0, 0, 0, 0), (201, .iconst 3, 202, 0, 3, 0, 0, 0), (202, .istore 6, 204, 0, 0, 0, 0, 6), (204, .iload 6, 206, 0, 0, 0, 0, 6), (206, .iconst 5, 207, 0, 5, 0, 0, 0), (207, .if_icmp .ne 10, 210, 217, 0, 0, 0, 0), (210, .aload_n 0, 211, 0, 0, 0, 0, 0), (211, .getfield 117, 214, 886, 0, 0, 6, 4), (214, .goto 11, 217, 225, 0, 0, 0, 0), (217, .aload_n 0, 218, 0, 0, 0, 0, 0), (218, .iload 5, 220, 0, 0, 0, 0, 5), (220, .iload 6, 222, 0, 0, 0, 0, 6), (222, .invokevirtual 106, 225, 1065, 0, 0, 0, 0), (225, .istore 7, 227, 0, 0, 0, 0, 7), (227, .iload 6, 229, 0, 0, 0, 0, 6), (229, .iconst 5, 230, 0, 5, 0, 0, 0), (230, .if_icmp .ne 12, 233, 242, 0, 0, 0, 0), (233, .aload_n 0, 234, 0, 0, 0, 0, 0), (234, .getfield 83, 237, 885, 0, 0, 6, 3), (237, .iconst 1, 238, 0, 1, 0, 0, 0), (238, .isub, 239, 0, 0, 0, 0, 0), (239, .goto 18, 242, 257, 0, 0, 0, 0), (242, .iload 6, 244, 0, 0, 0, 0, 6), (244, .iconst 4, 245, 0, 4, 0, 0, 0), (245, .if_icmp .ne 7, 248, 252, 0, 0, 0, 0), (248, .iconst 5, 249, 0, 5, 0, 0, 0), (249, .goto 8, 252, 257, 0, 0, 0, 0), (252, .iload 6, 254, 0, 0, 0, 0, 6), (254, .invokestatic 102, 257, 1062, 0, 0, 0, 0), (257, .istore 8, 259, 0, 0, 0, 0, 8), (259, .iconst 0, 260, 0, 0, 0, 0, 0), (260, .istore 9, 262, 0, 0, 0, 0, 9), (262, .iconst 0, 263, 0, 0, 0, 0, 0), (263, .istore 10, 265, 0, 0, 0, 0, 10), (265, .iconst (-1), 266, 0, (-1), 0, 0, 0), (266, .istore 11, 268, 0, 0, 0, 0, 11), (268, .iload 8, 270, 0, 0, 0, 0, 8), (270, .istore 12, 272, 0, 0, 0, 0, 12), (272, .iload 12, 274, 0, 0, 0, 0, 12), (274, .ifCond .lt 54, 277, 328, 0, 0, 0, 0), (277, .aload_n 0, 278, 0, 0, 0, 0, 0), (278, .iload 6, 280, 0, 0, 0, 0, 6), (280, .iload 5, 282, 0, 0, 0, 0, 5), (282, .iload 12, 284, 0, 0, 0, 0, 12), (284, .invokevirtual 110, 287, 1176, 0, 0, 0, 0), (287, .aload_n 0, 288, 0, 0, 0, 0, 0), (288, .invokevirtual 285, 291, 1214, 0, 0, 0, 0), (291, .iload 4, 293, 0, 0, 0, 0, 4), (293, .if_icmp .ne 29, 296, 322, 0, 0, 0, 0), (296, .iload 9, 298, 0, 0, 0, 0, 9), (298, .iload 6, 300, 0, 0, 0, 0, 6), (300, .iconst 3, 301, 0, 3, 0, 0, 0), (301, .if_icmp .ne 7, 304, 308, 0, 0, 0, 0), (304, .iconst 0, 305, 0, 0, 0, 0, 0), (305, .goto 7, 308, 312, 0, 0, 0, 0), (308, .iconst 1, 309, 0, 1, 0, 0, 0), (309, .iload 12, 311, 0, 0, 0, 0, 12), (311, .ishl, 312, 0, 0, 0, 0, 0), (312, .ior, 313, 0, 0, 0, 0, 0), (313, .istore 9, 315, 0, 0, 0, 0, 9), (315, .iinc 10 1, 318, 0, 1, 0, 0, 0), (318, .iload 12, 320, 0, 0, 0, 0, 12), (320, .istore 11, 322, 0, 0, 0, 0, 11), (322, .iinc 12 (-1), 325, 0, (-1), 0, 0, 0), (325, .goto (-53), 328, 272, 0, 0, 0, 0), (328, .aload_n 0, 329, 0, 0, 0, 0, 0), (329, .iload 6, 331, 0, 0, 0, 0, 6), (331, .iload 5, 333, 0, 0, 0, 0, 5), (333, .iload 7, 335, 0, 0, 0, 0, 7), (335, .invokevirtual 110, 338, 1176, 0, 0, 0, 0), (338, .iload_n 2, 339, 0, 0, 0, 0, 2), (339, .bipush 30, 341, 0, 30, 0, 0, 0), (341, .if_icmp .ge 8, 344, 349, 0, 0, 0, 0), (344, .iload 9, 346, 0, 0, 0, 0, 9), (346, .goto 16, 349, 362, 0, 0, 0, 0), (349, .iload_n 2, 350, 0, 0, 0, 0, 2), (350, .bipush 40, 352, 0, 40, 0, 0, 0), (352, .if_icmp .ge 8, 355, 360, 0, 0, 0, 0), (355, .iload 10, 357, 0, 0, 0, 0, 10), (357, .goto 5, 360, 362, 0, 0, 0, 0), (360, .iload 11, 362, 0, 0, 0, 0, 11), (362, .ireturn, 363, 0, 0, 0, 0, 0)]
def tX7_film : List E8 := [(0, .iload_n 1, 1, 0, 0, 0, 0, 1), (1, .invokestatic 348, 4, 1294, 0, 0, 0, 0), (4, .ifCond .ne 6, 7, 10, 0, 0, 0, 0), (7, .bipush (-2), 9, 0, (-2), 0, 0, 0), (9, .ireturn, 10, 0, 0, 0, 0, 0), (10, .aload_n 0, 11, 0, 0, 0, 0, 0), (11, .invokevirtual 285, 14, 1214, 0, 0, 0, 0), (14, .istore_n 2, 15, 0, 0, 0, 0, 2), (15, .aload_n 0, 16, 0, 0, 0, 0, 0), (16, .iload_n 1, 17, 0, 0, 0, 0, 1), (17, .iconst 2, 18, 0, 2, 0, 0, 0), (18, .iconst 1, 19, 0, 1, 0, 0, 0), (19, .invokevirtual 355, 22, 1305, 0, 0, 0, 0), (22, .pop, 23, 0, 0, 0, 0, 0), (23, .aload_n 0, 24, 0, 0, 0, 0, 0), (24, .getfield 76, 27, 936, 0, 0, 6, 54), (27, .bipush 40, 29, 0, 40, 0, 0, 0), (29, .iload_n 1, 30, 0, 0, 0, 0, 1), (30, .imul, 31, 0, 0, 0, 0, 0), (31, .iload_n 2, 32, 0, 0, 0, 0, 2), (32, .iastore, 33, 0, 0, 0, 0, 0), (33, .iload_n 2, 34, 0, 0, 0, 0, 2), (34, .ireturn, 35, 0, 0, 0, 0, 0)]
def tX7_draws : List E8 := [(0, .iload_n 1, 1, 0, 0, 0, 0, 1), (1, .istore_n 2, 2, 0, 0, 0, 0, 2), (2, .iconst 0, 3, 0, 0, 0, 0, 0), (3, .istore_n 3, 4, 0, 0, 0, 0, 3), (4, .iload_n 3, 5, 0, 0, 0, 0, 3), (5, .aload_n 0, 6, 0, 0, 0, 0, 0), (6, .getfield 86, 9, 894, 0, 0, 6, 12), (9, .if_icmp .ge 44, 12, 53, 0, 0, 0, 0), (12, .aload_n 0, 13, 0, 0, 0, 0, 0), (13, .getfield 51, 16, 924, 0, 0, 6, 42), (16, .iload_n 3, 17, 0, 0, 0, 0, 3), (17, .aload_n 0, 18, 0, 0, 0, 0, 0), (18, .getfield 32, 21, 893, 0, 0, 6, 11), (21, .iload_n 3, 22, 0, 0, 0, 0, 3), (22, .iaload, 23, 0, 0, 0, 0, 0), (23, .iastore, 24, 0, 0, 0, 0, 0), (24, .iload_n 2, 25, 0, 0, 0, 0, 2), (25, .ldc_w 358, 28, 1318, 1103515245, 0, 0, 0), (28, .imul, 29, 0, 0, 0, 0, 0), (29, .sipush 12345, 32, 0, 12345, 0, 0, 0), (32, .iadd, 33, 0, 0, 0, 0, 0), (33, .istore_n 2, 34, 0, 0, 0, 0, 2), (34, .aload_n 0, 35, 0, 0, 0, 0, 0), (35, .getfield 32, 38, 893, 0, 0, 6, 11), (38, .iload_n 3, 39, 0, 0, 0, 0, 3), (39, .iload_n 2, 40, 0, 0, 0, 0, 2), (40, .bipush 9, 42, 0, 9, 0, 0, 0), (42, .iushr, 43, 0, 0, 0, 0, 0), (43, .bipush 100, 45, 0, 100, 0, 0, 0), (45, .irem, 46, 0, 0, 0, 0, 0), (46, .iastore, 47, 0, 0, 0, 0, 0), (47, .iinc 3 1, 50, 0, 1, 0, 0, 0), (50, .goto (-46), 53, 4, 0, 0, 0, 0), (53, .return_, 54, 0, 0, 0, 0, 0)]
def tX7_bribesAgain : List E8 := [(0, .iconst 0, 1, 0, 0, 0, 0, 0), (1, .istore_n 1, 2, 0, 0, 0, 0, 1), (2, .iload_n 1, 3, 0, 0, 0, 0, 1), (3, .aload_n 0, 4, 0, 0, 0, 0, 0), (4, .getfield 86, 7, 894, 0, 0, 6, 12), (7, .if_icmp .ge 21, 10, 28, 0, 0, 0, 0), (10, .aload_n 0, 11, 0, 0, 0, 0, 0), (11, .getfield 32, 14, 893, 0, 0, 6, 11), (14, .iload_n 1, 15, 0, 0, 0, 0, 1), (15, .aload_n 0, 16, 0, 0, 0, 0, 0), (16, .getfield 51, 19, 924, 0, 0, 6, 42), (19, .iload_n 1, 20, 0, 0, 0, 0, 1), (20, .iaload, 21, 0, 0, 0, 0, 0), (21, .iastore, 22, 0, 0, 0, 0, 0), (22, .iinc 1 1, 25, 0, 1, 0, 0, 0), (25, .goto (-23), 28, 2, 0, 0, 0, 0), (28, .return_, 29, 0, 0, 0, 0, 0)]
def tX7_drawn : List E8 := [(0, .aload_n 0, 1, 0, 0, 0, 0, 0), (1, .iload_n 1, 2, 0, 0, 0, 0, 1), (2, .invokevirtual 359, 5, 1314, 0, 0, 0, 0), (5, .aload_n 0, 6, 0, 0, 0, 0, 0), (6, .invokevirtual 135, 9, 1076, 0, 0, 0, 0), (9, .invokestatic 139, 12, 1165, 0, 0, 0, 0), (12, .istore_n 2, 13, 0, 0, 0, 0, 2), (13, .aload_n 0, 14, 0, 0, 0, 0, 0), (14, .invokevirtual 362, 17, 1319, 0, 0, 0, 0), (17, .iload_n 2, 18, 0, 0, 0, 0, 2), (18, .ireturn, 19, 0, 0, 0, 0, 0)]
def tX7_chance : List E8 := [(0, .iload_n 2, 1, 0, 0, 0, 0, 2), (1, .i2l, 2, 0, 0, 0, 0, 0), (2, .lconst 1, 3, 0, 0, 1, 0, 0), (3, .ldc2_w 365, 6, 1327, 0, 20, 0, 0), (6, .invokestatic 89, 9, 1055, 0, 0, 0, 0), (9, .ifCond .eq 13, 12, 22, 0, 0, 0, 0), (12, .iload_n 3, 13, 0, 0, 0, 0, 3), (13, .i2l, 14, 0, 0, 0, 0, 0), (14, .lconst 0, 15, 0, 0, 0, 0, 0), (15, .lconst 1, 16, 0, 0, 1, 0, 0), (16, .invokestatic 89, 19, 1055, 0, 0, 0, 0), (19, .ifCond .ne 7, 22, 26, 0, 0, 0, 0), (22, .ldc2_w 367, 25, 1328, 0, (-4611686018427387904), 0, 0), (25, .lreturn, 26, 0, 0, 0, 0, 0), (26, .lconst 0, 27, 0, 0, 0, 0, 0), (27, .lstore 4, 29, 0, 0, 0, 0, 4), (29, .iconst 0, 30, 0, 0, 0, 0, 0), (30, .istore 6, 32, 0, 0, 0, 0, 6), (32, .iload 6, 34, 0, 0, 0, 0, 6), (34, .iload_n 2, 35, 0, 0, 0, 0, 2), (35, .if_icmp .ge 42, 38, 77, 0, 0, 0, 0), (38, .aload_n 0, 39, 0, 0, 0, 0, 0), (39, .iload_n 1, 40, 0, 0, 0, 0, 1), (40, .iload 6, 42, 0, 0, 0, 0, 6), (42, .iadd, 43, 0, 0, 0, 0, 0), (43, .invokevirtual 359, 46, 1314, 0, 0, 0, 0), (46, .lload 4, 48, 0, 0, 0, 0, 4), (48, .aload_n 0, 49, 0, 0, 0, 0, 0), (49, .invokevirtual 285, 52, 1214, 0, 0, 0, 0), (52, .aload_n 0, 53, 0, 0, 0, 0, 0), (53, .getfield 23, 56, 890, 0, 0, 6, 8), (56, .if_icmp .gt 7, 59, 63, 0, 0, 0, 0), (59, .lconst 1, 60, 0, 0, 1, 0, 0), (60, .goto 4, 63, 64, 0, 0, 0, 0), (63, .lconst 0, 64, 0, 0, 0, 0, 0), (64, .ladd, 65, 0, 0, 0, 0, 0), (65, .lstore 4, 67, 0, 0, 0, 0, 4), (67, .aload_n 0, 68, 0, 0, 0, 0, 0), (68, .invokevirtual 362, 71, 1319, 0, 0, 0, 0), (71, .iinc 6 1, 74, 0, 1, 0, 0, 0), (74, .goto (-42), 77, 32, 0, 0, 0, 0), (77, .lload 4, 79, 0, 0, 0, 0, 4), (79, .lstore 6, 81, 0, 0, 0, 0, 6), (81, .iload_n 2, 82, 0, 0, 0, 0, 2), (82, .i2l, 83, 0, 0, 0, 0, 0), (83, .lstore 8, 85, 0, 0, 0, 0, 8), (85, .lload 8, 87, 0, 0, 0, 0, 8), (87, .lconst 0, 88, 0, 0, 0, 0, 0), (88, .lcmp, 89, 0, 0, 0, 0, 0), (89, .ifCond .eq 21, 92, 110, 0, 0, 0, 0), (92, .lload 6, 94, 0, 0, 0, 0, 6), (94, .lload 8, 96, 0, 0, 0, 0, 8), (96, .lrem, 97, 0, 0, 0, 0, 0), (97, .lstore 10, 99, 0, 0, 0, 0, 10), (99, .lload 8, 101, 0, 0, 0, 0, 8), (101, .lstore 6, 103, 0, 0, 0, 0, 6), (103, .lload 10, 105, 0, 0, 0, 0, 10), (105, .lstore 8, 107, 0, 0, 0, 0, 8), (107, .goto (-22), 110, 85, 0, 0, 0, 0), (110, .iload_n 3, 111, 0, 0, 0, 0, 3), (111, .ifCond .ne 11, 114, 122, 0, 0, 0, 0), (114, .lload 4, 116, 0, 0, 0, 0, 4), (116, .lload 6, 118, 0, 0, 0, 0, 6), (118, .ldiv, 119, 0, 0, 0, 0, 0), (119, .goto 8, 122, 127, 0, 0, 0, 0), (122, .iload_n 2, 123, 0, 0, 0, 0, 2), (123, .i2l, 124, 0, 0, 0, 0, 0), (124, .lload 6, 126, 0, 0, 0, 0, 6), (126, .ldiv, 127, 0, 0, 0, 0, 0), (127, .lreturn, 128, 0, 0, 0, 0, 0)]
def tX7_image : List E8 := [(0, .iconst 0, 1, 0, 0, 0, 0, 0), (1, .istore_n 1, 2, 0, 0, 0, 0, 1), (2, .iload_n 1, 3, 0, 0, 0, 0, 1), (3, .bipush 8, 5, 0, 8, 0, 0, 0), (5, .if_icmp .ge 33, 8, 38, 0, 0, 0, 0), (8, .aload_n 0, 9, 0, 0, 0, 0, 0), (9, .getfield 54, 12, 925, 0, 0, 6, 43), (12, .iload_n 1, 13, 0, 0, 0, 0, 1), (13, .aload_n 0, 14, 0, 0, 0, 0, 0), (14, .getfield 29, 17, 892, 0, 0, 6, 10), (17, .iload_n 1, 18, 0, 0, 0, 0, 1), (18, .iaload, 19, 0, 0, 0, 0, 0), (19, .iastore, 20, 0, 0, 0, 0, 0), (20, .aload_n 0, 21, 0, 0, 0, 0, 0), (21, .getfield 57, 24, 926, 0, 0, 6, 44), (24, .iload_n 1, 25, 0, 0, 0, 0, 1), (25, .aload_n 0, 26, 0, 0, 0, 0, 0), (26, .getfield 32, 29, 893, 0, 0, 6, 11), (29, .iload_n 1, 30, 0, 0, 0, 0, 1), (30, .iaload, 31, 0, 0, 0, 0, 0), (31, .iastore, 32, 0, 0, 0, 0, 0), (32, .iinc 1 1, 35, 0, 1, 0, 0, 0), (35, .goto (-33), 38, 2, 0, 0, 0, 0), (38, .iconst 0, 39, 0, 0, 0, 0, 0), (39, .istore_n 1, 40, 0, 0, 0, 0, 1), (40, .iload_n 1, 41, 0, 0, 0, 0, 1), (41, .bipush 18, 43, 0, 18, 0, 0, 0), (43, .if_icmp .ge 21, 46, 64, 0, 0, 0, 0), (46, .aload_n 0, 47, 0, 0, 0, 0, 0), (47, .getfield 60, 50, 927, 0, 0, 6, 45), (50, .iload_n 1, 51, 0, 0, 0, 0, 1), (51, .aload_n 0, 52, 0, 0, 0, 0, 0), (52, .getfield 35, 55, 895, 0, 0, 6, 13), (55, .iload_n 1, 56, 0, 0, 0, 0, 1), (56, .iaload, 57, 0, 0, 0, 0, 0), (57, .iastore, 58, 0, 0, 0, 0, 0), (58, .iinc 1 1, 61, 0, 1, 0, 0, 0), (61, .goto (-21), 64, 40, 0, 0, 0, 0), (64, .aload_n 0, 65, 0, 0, 0, 0, 0), (65, .aload_n 0, 66, 0, 0, 0, 0, 0), (66, .getfield 86, 69, 894, 0, 0, 6, 12), (69, .putfield 63, 72, 928, 0, 0, 6, 46), (72, .aload_n 0, 73, 0, 0, 0, 0, 0), (73, .aload_n 0, 74, 0, 0, 0, 0, 0), (74, .getfield 93, 77, 896, 0, 0, 6, 14), (77, .putfield 369, 80, 929, 0, 0, 6, 47), (80, .aload_n 0, 81, 0, 0, 0, 0, 0), (81, .aload_n 0, 82, 0, 0, 0, 0, 0), (82, .getfield 114, 85, 889, 0, 0, 6, 7), (85, .putfield 372, 88, 930, 0, 0, 6, 48), (88, .aload_n 0, 89, 0, 0, 0, 0, 0), (89, .aload_n 0, 90, 0, 0, 0, 0, 0), (90, .getfield 23, 93, 890, 0, 0, 6, 8), (93, .putfield 375, 96, 931, 0, 0, 6, 49), (96, .aload_n 0, 97, 0, 0, 0, 0, 0), (97, .aload_n 0, 98, 0, 0, 0, 0, 0), (98, .getfield 117, 101, 886, 0, 0, 6, 4), (101, .putfield 378, 104, 932, 0, 0, 6, 50), (104, .aload_n 0, 105, 0, 0, 0, 0, 0), (105, .getfield 86, 108, 894, 0, 0, 6, 12), (108, .ireturn, 109, 0, 0, 0, 0, 0)]
def tX7_back : List E8 := [(0, .aload_n 0, 1, 0, 0, 0, 0, 0), (1, .getfield 63, 4, 928, 0, 0, 6, 46), (4, .iconst (-1), 5, 0, (-1), 0, 0, 0), (5, .if_icmp .ne 6, 8, 11, 0, 0, 0, 0), (8, .bipush (-3), 10, 0, (-3), 0, 0, 0), (10, .ireturn, 11, 0, 0, 0, 0, 0), (11, .iconst 0, 12, 0, 0, 0, 0, 0), (12, .istore_n 1, 13, 0, 0, 0, 0, 1), (13, .iload_n 1, 14, 0, 0, 0, 0, 1), (14, .bipush 8, 16, 0, 8, 0, 0, 0), (16, .if_icmp .ge 33, 19, 49, 0, 0, 0, 0), (19, .aload_n 0, 20, 0, 0, 0, 0, 0), (20, .getfield 29, 23, 892, 0, 0, 6, 10), (23, .iload_n 1, 24, 0, 0, 0, 0, 1), (24, .aload_n 0, 25, 0, 0, 0, 0, 0), (25, .getfield 54, 28, 925, 0, 0, 6, 43), (28, .iload_n 1, 29, 0, 0, 0, 0, 1), (29, .iaload, 30, 0, 0, 0, 0, 0), (30, .iastore, 31, 0, 0, 0, 0, 0), (31, .aload_n 0, 32, 0, 0, 0, 0, 0), (32, .getfield 32, 35, 893, 0, 0, 6, 11), (35, .iload_n 1, 36, 0, 0, 0, 0, 1), (36, .aload_n 0, 37, 0, 0, 0, 0, 0), (37, .getfield 57, 40, 926, 0, 0, 6, 44), (40, .iload_n 1, 41, 0, 0, 0, 0, 1), (41, .iaload, 42, 0, 0, 0, 0, 0), (42, .iastore, 43, 0, 0, 0, 0, 0), (43, .iinc 1 1, 46, 0, 1, 0, 0, 0), (46, .goto (-33), 49, 13, 0, 0, 0, 0), (49, .iconst 0, 50, 0, 0, 0, 0, 0), (50, .istore_n 1, 51, 0, 0, 0, 0, 1), (51, .iload_n 1, 52, 0, 0, 0, 0, 1), (52, .bipush 18, 54, 0, 18, 0, 0, 0), (54, .if_icmp .ge 21, 57, 75, 0, 0, 0, 0), (57, .aload_n 0, 58, 0, 0, 0, 0, 0), (58, .getfield 35, 61, 895, 0, 0, 6, 13), (61, .iload_n 1, 62, 0, 0, 0, 0, 1), (62, .aload_n 0, 63, 0, 0, 0, 0, 0), (63, .getfield 60, 66, 927, 0, 0, 6, 45), (66, .iload_n 1, 67, 0, 0, 0, 0, 1), (67, .iaload, 68, 0, 0, 0, 0, 0), (68, .iastore, 69, 0, 0, 0, 0, 0), (69, .iinc 1 1, 72, 0, 1, 0, 0, 0), (72, .goto (-21), 75, 51, 0, 0, 0, 0), (75, .aload_n 0, 76, 0, 0, 0, 0, 0), (76, .aload_n 0, 77, 0, 0, 0, 0, 0), (77, .getfield 63, 80, 928, 0, 0, 6, 46), (80, .putfield 86, 83, 894, 0, 0, 6, 12), (83, .aload_n 0, 84, 0, 0, 0, 0, 0), (84, .aload_n 0, 85, 0, 0, 0, 0, 0), (85, .getfield 369, 88, 929, 0, 0, 6, 47), (88, .putfield 93, 91, 896, 0, 0, 6, 14), (91, .aload_n 0, 92, 0, 0, 0, 0, 0), (92, .aload_n 0, 93, 0, 0, 0, 0, 0), (93, .getfield 372, 96, 930, 0, 0, 6, 48), (96, .putfield 114, 99, 889, 0, 0, 6, 7), (99, .aload_n 0, 100, 0, 0, 0, 0, 0), (100, .aload_n 0, 101, 0, 0, 0, 0, 0), (101, .getfield 375, 104, 931, 0, 0, 6, 49), (104, .putfield 23, 107, 890, 0, 0, 6, 8), (107, .aload_n 0, 108, 0, 0, 0, 0, 0), (108, .aload_n 0, 109, 0, 0, 0, 0, 0), (109, .getfield 378, 112, 932, 0, 0, 6, 50), (112, .putfield 117, 115, 886, 0, 0, 6, 4), (115, .aload_n 0, 116, 0, 0, 0, 0, 0), (116, .getfield 86, 119, 894, 0, 0, 6, 12), (119, .ireturn, 120, 0, 0, 0, 0, 0)]
def tX7_count : List E8 := [(0, .iload_n 1, 1, 0, 0, 0, 0, 1), (1, .i2l, 2, 0, 0, 0, 0, 0), (2, .lconst 0, 3, 0, 0, 0, 0, 0), (3, .ldc2_w 120, 6, 1184, 0, 5, 0, 0), (6, .invokestatic 89, 9, 1055, 0, 0, 0, 0), (9, .ifCond .ne 6, 12, 15, 0, 0, 0, 0), (12, .bipush (-2), 14, 0, (-2), 0, 0, 0), (14, .ireturn, 15, 0, 0, 0, 0, 0), (15, .iload_n 1, 16, 0, 0, 0, 0, 1), (16, .iconst 3, 17, 0, 3, 0, 0, 0), (17, .if_icmp .ge 31, 20, 48, 0, 0, 0, 0), (20, .iload_n 1, 21, 0, 0, 0, 0, 1), (21, .ifCond .ne 10, 24, 31, 0, 0, 0, 0), (24, .aload_n 0, 25, 0, 0, 0, 0, 0), (25, .getfield 86, 28, 894, 0, 0, 6, 12), (28, .goto 19, 31, 47, 0, 0, 0, 0), (31, .iload_n 1, 32, 0, 0, 0, 0, 1), (32, .iconst 1, 33, 0, 1, 0, 0, 0), (33, .if_icmp .ne 10, 36, 43, 0, 0, 0, 0), (36, .aload_n 0, 37, 0, 0, 0, 0, 0), (37, .getfield 93, 40, 896, 0, 0, 6, 14), (40, .goto 7, 43, 47, 0, 0, 0, 0), (43, .aload_n 0, 44, 0, 0, 0, 0, 0), (44, .invokevirtual 309, 47, 1244, 0, 0, 0, 0), (47, .ireturn, 48, 0, 0, 0, 0, 0), (48, .iload_n 1, 49, 0, 0, 0, 0, 1), (49, .iconst 3, 50, 0, 3, 0, 0, 0), (50, .if_icmp .ne 10, 53, 60, 0, 0, 0, 0), (53, .aload_n 0, 54, 0, 0, 0, 0, 0), (54, .getfield 83, 57, 885, 0, 0, 6, 3), (57, .goto 19, 60, 76, 0, 0, 0, 0), (60, .iload_n 1, 61, 0, 0, 0, 0, 1), (61, .iconst 4, 62, 0, 4, 0, 0, 0), (62, .if_icmp .ne 10, 65, 72, 0, 0, 0, 0), (65, .aload_n 0, 66, 0, 0, 0, 0, 0), (66, .getfield 150, 69, 888, 0, 0, 6, 6), (69, .goto 7, 72, 76, 0, 0, 0, 0), (72, .aload_n 0, 73, 0, 0, 0, 0, 0), (73, .getfield 117, 76, 886, 0, 0, 6, 4), (76, .ireturn, 77, 0, 0, 0, 0, 0)]
def tX7_isSheet : List E8 := [(0, .iload_n 0, 1, 0, 0, 0, 0, 0), (1, .i2l, 2, 0, 0, 0, 0, 0), (2, .lconst 0, 3, 0, 0, 0, 0, 0), (3, .ldc2_w 96, 6, 1054, 0, 3, 0, 0), (6, .invokestatic 89, 9, 1055, 0, 0, 0, 0), (9, .ireturn, 10, 0, 0, 0, 0, 0)]
def tX7_sheet : List E8 := [(0, .iload_n 1, 1, 0, 0, 0, 0, 1), (1, .invokestatic 348, 4, 1294, 0, 0, 0, 0), (4, .ifCond .eq 27, 7, 31, 0, 0, 0, 0), (7, .iload_n 2, 8, 0, 0, 0, 0, 2), (8, .i2l, 9, 0, 0, 0, 0, 0), (9, .ldc2_w 381, 12, 1309, 0, (-1), 0, 0), (12, .ldc2_w 131, 15, 1074, 0, 2, 0, 0), (15, .invokestatic 89, 18, 1055, 0, 0, 0, 0), (18, .ifCond .eq 13, 21, 31, 0, 0, 0, 0), (21, .iload_n 2, 22, 0, 0, 0, 0, 2), (22, .ifCond .lt 12, 25, 34, 0, 0, 0, 0), (25, .iload_n 3, 26, 0, 0, 0, 0, 3), (26, .bipush 40, 28, 0, 40, 0, 0, 0), (28, .if_icmp .le 6, 31, 34, 0, 0, 0, 0), (31, .bipush (-2), 33, 0, (-2), 0, 0, 0), (33, .ireturn, 34, 0, 0, 0, 0, 0), (34, .iload_n 2, 35, 0, 0, 0, 0, 2), (35, .ifCond .lt 10, 38, 45, 0, 0, 0, 0), (38, .iload_n 3, 39, 0, 0, 0, 0, 3), (39, .ifCond .ge 6, 42, 45, 0, 0, 0, 0), (42, .bipush (-14), 44, 0, (-14), 0, 0, 0), (44, .ireturn, 45, 0, 0, 0, 0, 0), (45, .aload_n 0, 46, 0, 0, 0, 0, 0), (46, .getfield 66, 49, 933, 0, 0, 6, 51), (49, .iload_n 1, 50, 0, 0, 0, 0, 1), (50, .iload_n 2, 51, 0, 0, 0, 0, 2), (51, .ifCond .lt 7, 54, 58, 0, 0, 0, 0), (54, .iconst 1, 55, 0, 1, 0, 0, 0), (55, .goto 4, 58, 59, 0, 0, 0, 0), (58, .iconst 0, 59, 0, 0, 0, 0, 0), (59, .bastore, 60, 0, 0, 0, 0, 0), (60, .aload_n 0, 61, 0, 0, 0, 0, 0), (61, .getfield 70, 64, 934, 0, 0, 6, 52), (64, .iload_n 1, 65, 0, 0, 0, 0, 1), (65, .iload_n 2, 66, 0, 0, 0, 0, 2), (66, .iastore, 67, 0, 0, 0, 0, 0), (67, .aload_n 0, 68, 0, 0, 0, 0, 0), (68, .getfield 73, 71, 935, 0, 0, 6, 53), (71, .iload_n 1, 72, 0, 0, 0, 0, 1), (72, .iload_n 3, 73, 0, 0, 0, 0, 3), (73, .iastore, 74, 0, 0, 0, 0, 0), (74, .iconst 0, 75, 0, 0, 0, 0, 0), (75, .istore 4, 77, 0, 0, 0, 0, 4), (77, .iload 4, 79, 0, 0, 0, 0, 4), (79, .iload_n 3, 80, 0, 0, 0, 0, 3), (80, .if_icmp .ge 26, 83, 106, 0, 0, 0, 0), (83, .iload_n 2, 84, 0, 0, 0, 0, 2), (84, .ifCond .lt 22, 87, 106, 0, 0, 0, 0), (87, .aload_n 0, 88, 0, 0, 0, 0, 0), (88, .getfield 76, 91, 936, 0, 0, 6, 54), (91, .bipush 40, 93, 0, 40, 0, 0, 0), (93, .iload_n 1, 94, 0, 0, 0, 0, 1), (94, .imul, 95, 0, 0, 0, 0, 0), (95, .iload 4, 97, 0, 0, 0, 0, 4), (97, .iadd, 98, 0, 0, 0, 0, 0), (98, .iconst 0, 99, 0, 0, 0, 0, 0), (99, .iastore, 100, 0, 0, 0, 0, 0), (100, .iinc 4 1, 103, 0, 1, 0, 0, 0), (103, .goto (-26), 106, 77, 0, 0, 0, 0), (106, .iconst 1, 107, 0, 1, 0, 0, 0), (107, .ireturn, 108, 0, 0, 0, 0, 0)]
def tX7_cell : List E8 := [(0, .iload_n 1, 1, 0, 0, 0, 0, 1), (1, .invokestatic 348, 4, 1294, 0, 0, 0, 0), (4, .ifCond .ne 6, 7, 10, 0, 0, 0, 0), (7, .bipush (-2), 9, 0, (-2), 0, 0, 0), (9, .ireturn, 10, 0, 0, 0, 0, 0), (10, .aload_n 0, 11, 0, 0, 0, 0, 0), (11, .getfield 66, 14, 933, 0, 0, 6, 51), (14, .iload_n 1, 15, 0, 0, 0, 0, 1), (15, .baload, 16, 0, 0, 0, 0, 0), (16, .ifCond .ne 6, 19, 22, 0, 0, 0, 0), (19, .bipush (-11), 21, 0, (-11), 0, 0, 0), (21, .ireturn, 22, 0, 0, 0, 0, 0), (22, .iload_n 2, 23, 0, 0, 0, 0, 2), (23, .i2l, 24, 0, 0, 0, 0, 0), (24, .lconst 0, 25, 0, 0, 0, 0, 0), (25, .aload_n 0, 26, 0, 0, 0, 0, 0), (26, .getfield 73, 29, 935, 0, 0, 6, 53), (29, .iload_n 1, 30, 0, 0, 0, 0, 1), (30, .iaload, 31, 0, 0, 0, 0, 0), (31, .iconst 1, 32, 0, 1, 0, 0, 0), (32, .isub, 33, 0, 0, 0, 0, 0), (33, .i2l, 34, 0, 0, 0, 0, 0), (34, .invokestatic 89, 37, 1055, 0, 0, 0, 0), (37, .ifCond .ne 6, 40, 43, 0, 0, 0, 0), (40, .bipush (-12), 42, 0, (-12), 0, 0, 0), (42, .ireturn, 43, 0, 0, 0, 0, 0), (43, .aload_n 0, 44, 0, 0, 0, 0, 0), (44, .getfield 76, 47, 936, 0, 0, 6, 54), (47, .bipush 40, 49, 0, 40, 0, 0, 0), (49, .iload_n 1, 50, 0, 0, 0, 0, 1), (50, .imul, 51, 0, 0, 0, 0, 0), (51, .iload_n 2, 52, 0, 0, 0, 0, 2), (52, .iadd, 53, 0, 0, 0, 0, 0), (53, .aload_n 0, 54, 0, 0, 0, 0, 0), (54, .getfield 70, 57, 934, 0, 0, 6, 52), (57, .iload_n 1, 58, 0, 0, 0, 0, 1), (58, .iaload, 59, 0, 0, 0, 0, 0), (59, .ifCond .ne 8, 62, 67, 0, 0, 0, 0), (62, .iload_n 3, 63, 0, 0, 0, 0, 3), (63, .i2b, 64, 0, 0, 0, 0, 0), (64, .goto 19, 67, 83, 0, 0, 0, 0), (67, .aload_n 0, 68, 0, 0, 0, 0, 0), (68, .getfield 70, 71, 934, 0, 0, 6, 52), (71, .iload_n 1, 72, 0, 0, 0, 0, 1), (72, .iaload, 73, 0, 0, 0, 0, 0), (73, .iconst 1, 74, 0, 1, 0, 0, 0), (74, .if_icmp .ne 8, 77, 82, 0, 0, 0, 0), (77, .iload_n 3, 78, 0, 0, 0, 0, 3), (78, .i2s, 79, 0, 0, 0, 0, 0), (79, .goto 4, 82, 83, 0, 0, 0, 0), (82, .iload_n 3, 83, 0, 0, 0, 0, 3), (83, .iastore, 84, 0, 0, 0, 0, 0), (84, .iconst 1, 85, 0, 1, 0, 0, 0), (85, .ireturn, 86, 0, 0, 0, 0, 0)]
def tX7_copy : List E8 := [(0, .iload_n 1, 1, 0, 0, 0, 0, 1), (1, .invokestatic 348, 4, 1294, 0, 0, 0, 0), (4, .ifCond .eq 10, 7, 14, 0, 0, 0, 0), (7, .iload_n 3, 8, 0, 0, 0, 0, 3), (8, .invokestatic 348, 11, 1294, 0, 0, 0, 0), (11, .ifCond .ne 6, 14, 17, 0, 0, 0, 0), (14, .bipush (-2), 16, 0, (-2), 0, 0, 0), (16, .ireturn, 17, 0, 0, 0, 0, 0), (17, .aload_n 0, 18, 0, 0, 0, 0, 0), (18, .getfield 66, 21, 933, 0, 0, 6, 51), (21, .iload_n 1, 22, 0, 0, 0, 0, 1), (22, .baload, 23, 0, 0, 0, 0, 0), (23, .ifCond .eq 12, 26, 35, 0, 0, 0, 0), (26, .aload_n 0, 27, 0, 0, 0, 0, 0), (27, .getfield 66, 30, 933, 0, 0, 6, 51), (30, .iload_n 3, 31, 0, 0, 0, 0, 3), (31, .baload, 32, 0, 0, 0, 0, 0), (32, .ifCond .ne 6, 35, 38, 0, 0, 0, 0), (35, .bipush (-11), 37, 0, (-11), 0, 0, 0), (37, .ireturn, 38, 0, 0, 0, 0, 0), (38, .aload_n 0, 39, 0, 0, 0, 0, 0), (39, .getfield 70, 42, 934, 0, 0, 6, 52), (42, .iload_n 1, 43, 0, 0, 0, 0, 1), (43, .iaload, 44, 0, 0, 0, 0, 0), (44, .aload_n 0, 45, 0, 0, 0, 0, 0), (45, .getfield 70, 48, 934, 0, 0, 6, 52), (48, .iload_n 3, 49, 0, 0, 0, 0, 3), (49, .iaload, 50, 0, 0, 0, 0, 0), (50, .if_icmp .eq 6, 53, 56, 0, 0, 0, 0), (53, .bipush (-13), 55, 0, (-13), 0, 0, 0), (55, .ireturn, 56, 0, 0, 0, 0, 0), (56, .iload 5, 58, 0, 0, 0, 0, 5), (58, .ifCond .lt 39, 61, 97, 0, 0, 0, 0), (61, .iload_n 2, 62, 0, 0, 0, 0, 2), (62, .ifCond .lt 35, 65, 97, 0, 0, 0, 0), (65, .iload 4, 67, 0, 0, 0, 0, 4), (67, .ifCond .lt 30, 70, 97, 0, 0, 0, 0), (70, .iload_n 2, 71, 0, 0, 0, 0, 2), (71, .aload_n 0, 72, 0, 0, 0, 0, 0), (72, .getfield 73, 75, 935, 0, 0, 6, 53), (75, .iload_n 1, 76, 0, 0, 0, 0, 1), (76, .iaload, 77, 0, 0, 0, 0, 0), (77, .iload 5, 79, 0, 0, 0, 0, 5), (79, .isub, 80, 0, 0, 0, 0, 0), (80, .if_icmp .gt 17, 83, 97, 0, 0, 0, 0), (83, .iload 4, 85, 0, 0, 0, 0, 4), (85, .aload_n 0, 86, 0, 0, 0, 0, 0), (86, .getfield 73, 89, 935, 0, 0, 6, 53), (89, .iload_n 3, 90, 0, 0, 0, 0, 3), (90, .iaload, 91, 0, 0, 0, 0, 0), (91, .iload 5, 93, 0, 0, 0, 0, 5), (93, .isub, 94, 0, 0, 0, 0, 0), (94, .if_icmp .le 6, 97, 100, 0, 0, 0, 0), (97, .bipush (-12), 99, 0, (-12), 0, 0, 0), (99, .ireturn, 100, 0, 0, 0, 0, 0), (100, .iload_n 1, 101, 0, 0, 0, 0, 1), (101, .iload_n 3, 102, 0, 0, 0, 0, 3), (102, .if_icmp .ne 13, 105, 115, 0, 0, 0, 0), (105, .iload_n 2, 106, 0, 0, 0, 0, 2), (106, .iload 4, 108, 0, 0, 0, 0, 4), (108, .if_icmp .ge 7, 111, 115, 0, 0, 0, 0), (111, .iconst 1, 112, 0, 1, 0, 0, 0), (112, .goto 4, 115, 116, 0, 0, 0, 0), (115, .iconst 0, 116, 0, 0, 0, 0, 0), (116, .istore 6, 118, 0, 0, 0, 0, 6), (118, .iconst 0, 119, 0, 0, 0, 0, 0), (119, .istore 7, 121, 0, 0, 0, 0, 7), (121, .iload 7, 123, 0, 0, 0, 0, 7), (123, .iload 5, 125, 0, 0, 0, 0, 5), (125, .if_icmp .ge 57, 128, 182, 0, 0, 0, 0), (128, .iload 6, 130, 0, 0, 0, 0, 6), (130, .ifCond .eq 13, 133, 143, 0, 0, 0, 0), (133, .iload 5, 135, 0, 0, 0, 0, 5), (135, .iconst 1, 136, 0, 1, 0, 0, 0), (136, .isub, 137, 0, 0, 0, 0, 0), (137, .iload 7, 139, 0, 0, 0, 0, 7), (139, .isub, 140, 0, 0, 0, 0, 0), (140, .goto 5, 143, 145, 0, 0, 0, 0), (143, .iload 7, 145, 0, 0, 0, 0, 7), (145, .istore 8, 147, 0, 0, 0, 0, 8), (147, .aload_n 0, 148, 0, 0, 0, 0, 0), (148, .getfield 76, 151, 936, 0, 0, 6, 54), (151, .bipush 40, 153, 0, 40, 0, 0, 0), (153, .iload_n 3, 154, 0, 0, 0, 0, 3), (154, .imul, 155, 0, 0, 0, 0, 0), (155, .iload 4, 157, 0, 0, 0, 0, 4), (157, .iadd, 158, 0, 0, 0, 0, 0), (158, .iload 8, 160, 0, 0, 0, 0, 8), (160, .iadd, 161, 0, 0, 0, 0, 0), (161, .aload_n 0, 162, 0, 0, 0, 0, 0), (162, .getfield 76, 165, 936, 0, 0, 6, 54), (165, .bipush 40, 167, 0, 40, 0, 0, 0), (167, .iload_n 1, 168, 0, 0, 0, 0, 1), (168, .imul, 169, 0, 0, 0, 0, 0), (169, .iload_n 2, 170, 0, 0, 0, 0, 2), (170, .iadd, 171, 0, 0, 0, 0, 0), (171, .iload 8, 173, 0, 0, 0, 0, 8), (173, .iadd, 174, 0, 0, 0, 0, 0), (174, .iaload, 175, 0, 0, 0, 0, 0), (175, .iastore, 176, 0, 0, 0, 0, 0), (176, .iinc 7 1, 179, 0, 1, 0, 0, 0), (179, .goto (-58), 182, 121, 0, 0, 0, 0), (182, .iload 5, 184, 0, 0, 0, 0, 5), (184, .ireturn, 185, 0, 0, 0, 0, 0)]
def tX7_citizens : List E8 := [(0, .iload_n 1, 1, 0, 0, 0, 0, 1), (1, .invokestatic 348, 4, 1294, 0, 0, 0, 0), (4, .ifCond .eq 28, 7, 32, 0, 0, 0, 0), (7, .iload_n 2, 8, 0, 0, 0, 0, 2), (8, .i2l, 9, 0, 0, 0, 0, 0), (9, .lconst 0, 10, 0, 0, 0, 0, 0), (10, .ldc2_w 131, 13, 1074, 0, 2, 0, 0), (13, .invokestatic 89, 16, 1055, 0, 0, 0, 0), (16, .ifCond .eq 16, 19, 32, 0, 0, 0, 0), (19, .iload 4, 21, 0, 0, 0, 0, 4), (21, .i2l, 22, 0, 0, 0, 0, 0), (22, .lconst 0, 23, 0, 0, 0, 0, 0), (23, .ldc2_w 383, 26, 1354, 0, 8, 0, 0), (26, .invokestatic 89, 29, 1055, 0, 0, 0, 0), (29, .ifCond .ne 6, 32, 35, 0, 0, 0, 0), (32, .bipush (-2), 34, 0, (-2), 0, 0, 0), (34, .ireturn, 35, 0, 0, 0, 0, 0), (35, .aload_n 0, 36, 0, 0, 0, 0, 0), (36, .getfield 66, 39, 933, 0, 0, 6, 51), (39, .iload_n 1, 40, 0, 0, 0, 0, 1), (40, .baload, 41, 0, 0, 0, 0, 0), (41, .ifCond .eq 16, 44, 57, 0, 0, 0, 0), (44, .aload_n 0, 45, 0, 0, 0, 0, 0), (45, .getfield 70, 48, 934, 0, 0, 6, 52), (48, .iload_n 1, 49, 0, 0, 0, 0, 1), (49, .iaload, 50, 0, 0, 0, 0, 0), (50, .iload_n 2, 51, 0, 0, 0, 0, 2), (51, .if_icmp .eq 6, 54, 57, 0, 0, 0, 0), (54, .bipush (-13), 56, 0, (-13), 0, 0, 0), (56, .ireturn, 57, 0, 0, 0, 0, 0), (57, .aload_n 0, 58, 0, 0, 0, 0, 0), (58, .getfield 66, 61, 933, 0, 0, 6, 51), (61, .iload_n 1, 62, 0, 0, 0, 0, 1), (62, .baload, 63, 0, 0, 0, 0, 0), (63, .ifCond .ne 6, 66, 69, 0, 0, 0, 0), (66, .bipush (-11), 68, 0, (-11), 0, 0, 0), (68, .ireturn, 69, 0, 0, 0, 0, 0), (69, .iconst 0, 70, 0, 0, 0, 0, 0), (70, .istore 5, 72, 0, 0, 0, 0, 5), (72, .iconst 0, 73, 0, 0, 0, 0, 0), (73, .istore 6, 75, 0, 0, 0, 0, 6), (75, .iload 6, 77, 0, 0, 0, 0, 6), (77, .iload 4, 79, 0, 0, 0, 0, 4), (79, .if_icmp .ge 79, 82, 158, 0, 0, 0, 0), (82, .iload_n 3, 83, 0, 0, 0, 0, 3), (83, .ifCond .lt 20, 86, 103, 0, 0, 0, 0), (86, .iload_n 3, 87, 0, 0, 0, 0, 3), (87, .aload_n 0, 88, 0, 0, 0, 0, 0), (88, .getfield 73, 91, 935, 0, 0, 6, 53), (91, .iload_n 1, 92, 0, 0, 0, 0, 1), (92, .iaload, 93, 0, 0, 0, 0, 0), (93, .iconst 2, 94, 0, 2, 0, 0, 0), (94, .iload 6, 96, 0, 0, 0, 0, 6), (96, .imul, 97, 0, 0, 0, 0, 0), (97, .isub, 98, 0, 0, 0, 0, 0), (98, .iconst 2, 99, 0, 2, 0, 0, 0), (99, .isub, 100, 0, 0, 0, 0, 0), (100, .if_icmp .le 6, 103, 106, 0, 0, 0, 0), (103, .bipush (-12), 105, 0, (-12), 0, 0, 0), (105, .ireturn, 106, 0, 0, 0, 0, 0), (106, .bipush 40, 108, 0, 40, 0, 0, 0), (108, .iload_n 1, 109, 0, 0, 0, 0, 1), (109, .imul, 110, 0, 0, 0, 0, 0), (110, .iload_n 3, 111, 0, 0, 0, 0, 3), (111, .iadd, 112, 0, 0, 0, 0, 0), (112, .iconst 2, 113, 0, 2, 0, 0, 0), (113, .iload 6, 115, 0, 0, 0, 0, 6), (115, .imul, 116, 0, 0, 0, 0, 0), (116, .iadd, 117, 0, 0, 0, 0, 0), (117, .istore 7, 119, 0, 0, 0, 0, 7), (119, .iload 5, 121, 0, 0, 0, 0, 5), (121, .aload_n 0, 122, 0, 0, 0, 0, 0), (122, .aload_n 0, 123, 0, 0, 0, 0, 0), (123, .getfield 76, 126, 936, 0, 0, 6, 54), (126, .iload 7, 128, 0, 0, 0, 0, 7), (128, .iaload, 129, 0, 0, 0, 0, 0), (129, .aload_n 0, 130, 0, 0, 0, 0, 0), (130, .getfield 76, 133, 936, 0, 0, 6, 54), (133, .iload 7, 135, 0, 0, 0, 0, 7), (135, .iconst 1, 136, 0, 1, 0, 0, 0), (136, .iadd, 137, 0, 0, 0, 0, 0), (137, .iaload, 138, 0, 0, 0, 0, 0), (138, .invokevirtual 385, 141, 1355, 0, 0, 0, 0), (141, .ifCond .lt 7, 144, 148, 0, 0, 0, 0), (144, .iconst 1, 145, 0, 1, 0, 0, 0), (145, .goto 4, 148, 149, 0, 0, 0, 0), (148, .iconst 0, 149, 0, 0, 0, 0, 0), (149, .iadd, 150, 0, 0, 0, 0, 0), (150, .istore 5, 152, 0, 0, 0, 0, 5), (152, .iinc 6 1, 155, 0, 1, 0, 0, 0), (155, .goto (-80), 158, 75, 0, 0, 0, 0), (158, .iload 5, 160, 0, 0, 0, 0, 5), (160, .ireturn, 161, 0, 0, 0, 0, 0)]
def tX7_over : List E8 := [(0, .iload_n 0, 1, 0, 0, 0, 0, 0), (1, .ifCond .ne 7, 4, 8, 0, 0, 0, 0), (4, .iconst (-1), 5, 0, (-1), 0, 0, 0), (5, .goto 22, 8, 27, 0, 0, 0, 0), (8, .iload_n 0, 9, 0, 0, 0, 0, 0), (9, .iconst 3, 10, 0, 3, 0, 0, 0), (10, .if_icmp .ne 7, 13, 17, 0, 0, 0, 0), (13, .iconst 1, 14, 0, 1, 0, 0, 0), (14, .goto 13, 17, 27, 0, 0, 0, 0), (17, .iload_n 0, 18, 0, 0, 0, 0, 0), (18, .iconst 4, 19, 0, 4, 0, 0, 0), (19, .if_icmp .ne 7, 22, 26, 0, 0, 0, 0), (22, .iconst 2, 23, 0, 2, 0, 0, 0), (23, .goto 4, 26, 27, 0, 0, 0, 0), (26, .iconst 0, 27, 0, 0, 0, 0, 0), (27, .ireturn, 28, 0, 0, 0, 0, 0)]
def tX7_taken : List E8 := [(0, .iload_n 2, 1, 0, 0, 0, 0, 2), (1, .i2l, 2, 0, 0, 0, 0, 0), (2, .lconst 0, 3, 0, 0, 0, 0, 0), (3, .ldc2_w 120, 6, 1184, 0, 5, 0, 0), (6, .invokestatic 89, 9, 1055, 0, 0, 0, 0), (9, .ifCond .ne 6, 12, 15, 0, 0, 0, 0), (12, .bipush (-2), 14, 0, (-2), 0, 0, 0), (14, .ireturn, 15, 0, 0, 0, 0, 0), (15, .aload_n 0, 16, 0, 0, 0, 0, 0), (16, .iload_n 1, 17, 0, 0, 0, 0, 1), (17, .invokevirtual 98, 20, 1058, 0, 0, 0, 0), (20, .ifCond .ne 6, 23, 26, 0, 0, 0, 0), (23, .bipush (-11), 25, 0, (-11), 0, 0, 0), (25, .ireturn, 26, 0, 0, 0, 0, 0), (26, .aload_n 0, 27, 0, 0, 0, 0, 0), (27, .getfield 26, 30, 891, 0, 0, 6, 9), (30, .iload_n 1, 31, 0, 0, 0, 0, 1), (31, .iaload, 32, 0, 0, 0, 0, 0), (32, .istore_n 3, 33, 0, 0, 0, 0, 3), (33, .iload_n 3, 34, 0, 0, 0, 0, 3), (34, .iconst (-1), 35, 0, (-1), 0, 0, 0), (35, .if_icmp .eq 16, 38, 51, 0, 0, 0, 0), (38, .iload_n 3, 39, 0, 0, 0, 0, 3), (39, .iload_n 2, 40, 0, 0, 0, 0, 2), (40, .if_icmp .eq 11, 43, 51, 0, 0, 0, 0), (43, .iload_n 3, 44, 0, 0, 0, 0, 3), (44, .invokestatic 388, 47, 1360, 0, 0, 0, 0), (47, .istore_n 3, 48, 0, 0, 0, 0, 3), (48, .goto (-15), 51, 33, 0, 0, 0, 0), (51, .iload_n 3, 52, 0, 0, 0, 0, 3), (52, .iload_n 2, 53, 0, 0, 0, 0, 2), (53, .if_icmp .ne 12, 56, 65, 0, 0, 0, 0), (56, .aload_n 0, 57, 0, 0, 0, 0, 0), (57, .getfield 29, 60, 892, 0, 0, 6, 10), (60, .iload_n 1, 61, 0, 0, 0, 0, 1), (61, .iaload, 62, 0, 0, 0, 0, 0), (62, .goto 5, 65, 67, 0, 0, 0, 0), (65, .bipush (-13), 67, 0, (-13), 0, 0, 0), (67, .ireturn, 68, 0, 0, 0, 0, 0)]
def tJ6_bitCount_0f7a4 : List E8 := [(0, .iload_n 0, 1, 0, 0, 0, 0, 0), (1, .iload_n 0, 2, 0, 0, 0, 0, 0), (2, .iconst 1, 3, 0, 1, 0, 0, 0), (3, .iushr, 4, 0, 0, 0, 0, 0), (4, .ldc_w 265, 7, 367, 1431655765, 0, 0, 0), (7, .iand, 8, 0, 0, 0, 0, 0), (8, .isub, 9, 0, 0, 0, 0, 0), (9, .istore_n 0, 10, 0, 0, 0, 0, 0), (10, .iload_n 0, 11, 0, 0, 0, 0, 0), (11, .ldc_w 266, 14, 368, 858993459, 0, 0, 0), (14, .iand, 15, 0, 0, 0, 0, 0), (15, .iload_n 0, 16, 0, 0, 0, 0, 0), (16, .iconst 2, 17, 0, 2, 0, 0, 0), (17, .iushr, 18, 0, 0, 0, 0, 0), (18, .ldc_w 266, 21, 368, 858993459, 0, 0, 0), (21, .iand, 22, 0, 0, 0, 0, 0), (22, .iadd, 23, 0, 0, 0, 0, 0), (23, .istore_n 0, 24, 0, 0, 0, 0, 0), (24, .iload_n 0, 25, 0, 0, 0, 0, 0), (25, .iload_n 0, 26, 0, 0, 0, 0, 0), (26, .iconst 4, 27, 0, 4, 0, 0, 0), (27, .iushr, 28, 0, 0, 0, 0, 0), (28, .iadd, 29, 0, 0, 0, 0, 0), (29, .ldc_w 267, 32, 369, 252645135, 0, 0, 0), (32, .iand, 33, 0, 0, 0, 0, 0), (33, .istore_n 0, 34, 0, 0, 0, 0, 0), (34, .iload_n 0, 35, 0, 0, 0, 0, 0), (35, .iload_n 0, 36, 0, 0, 0, 0, 0), (36, .bipush 8, 38, 0, 8, 0, 0, 0), (38, .iushr, 39, 0, 0, 0, 0, 0), (39, .iadd, 40, 0, 0, 0, 0, 0), (40, .istore_n 0, 41, 0, 0, 0, 0, 0), (41, .iload_n 0, 42, 0, 0, 0, 0, 0), (42, .iload_n 0, 43, 0, 0, 0, 0, 0), (43, .bipush 16, 45, 0, 16, 0, 0, 0), (45, .iushr, 46, 0, 0, 0, 0, 0), (46, .iadd, 47, 0, 0, 0, 0, 0), (47, .istore_n 0, 48, 0, 0, 0, 0, 0), (48, .iload_n 0, 49, 0, 0, 0, 0, 0), (49, .bipush 63, 51, 0, 63, 0, 0, 0), (51, .iand, 52, 0, 0, 0, 0, 0), (52, .ireturn, 53, 0, 0, 0, 0, 0)]
def tJ9_max_7cf53 : List E8 := [(0, .iload_n 0, 1, 0, 0, 0, 0, 0), (1, .iload_n 1, 2, 0, 0, 0, 0, 1), (2, .if_icmp .lt 7, 5, 9, 0, 0, 0, 0), (5, .iload_n 0, 6, 0, 0, 0, 0, 0), (6, .goto 4, 9, 10, 0, 0, 0, 0), (9, .iload_n 1, 10, 0, 0, 0, 0, 1), (10, .ireturn, 11, 0, 0, 0, 0, 0)]
def tJ9_min_7cf53 : List E8 := [(0, .iload_n 0, 1, 0, 0, 0, 0, 0), (1, .iload_n 1, 2, 0, 0, 0, 0, 1), (2, .if_icmp .gt 7, 5, 9, 0, 0, 0, 0), (5, .iload_n 0, 6, 0, 0, 0, 0, 0), (6, .goto 4, 9, 10, 0, 0, 0, 0), (9, .iload_n 1, 10, 0, 0, 0, 0, 1), (10, .ireturn, 11, 0, 0, 0, 0, 0)]
def tJ0_length_8abf5 : List E8 := [(0, .aload_n 0, 1, 0, 0, 0, 0, 0), (1, .getfield 9, 4, 1363, 0, 0, 98, 0), (4, .arraylength, 5, 0, 0, 0, 0, 0), (5, .aload_n 0, 6, 0, 0, 0, 0, 0), (6, .invokevirtual 335, 9, 521, 0, 0, 0, 0), (9, .ishr, 10, 0, 0, 0, 0, 0), (10, .ireturn, 11, 0, 0, 0, 0, 0)]
def tJ0_charAt_5068e : List E8 := [(0, .aload_n 0, 1, 0, 0, 0, 0, 0), (1, .invokevirtual 492, 4, 531, 0, 0, 0, 0), (4, .ifCond .eq 12, 7, 16, 0, 0, 0, 0), (7, .aload_n 0, 8, 0, 0, 0, 0, 0), (8, .getfield 9, 11, 1363, 0, 0, 98, 0), (11, .iload_n 1, 12, 0, 0, 0, 0, 1), (12, .invokestatic 495, 15, 535, 0, 0, 0, 0), (15, .ireturn, 16, 0, 0, 0, 0, 0), (16, .aload_n 0, 17, 0, 0, 0, 0, 0), (17, .getfield 9, 20, 1363, 0, 0, 98, 0), (20, .iload_n 1, 21, 0, 0, 0, 0, 1), (21, .invokestatic 498, 24, 546, 0, 0, 0, 0), (24, .ireturn, 25, 0, 0, 0, 0, 0)]
def tJ0_coder_7d493 : List E8 := [(0, .getstatic 38, 3, 525, 0, 0, 98, 0), (3, .ifCond .eq 10, 6, 13, 0, 0, 0, 0), (6, .aload_n 0, 7, 0, 0, 0, 0, 0), (7, .getfield 15, 10, 1364, 0, 0, 98, 0), (10, .goto 4, 13, 14, 0, 0, 0, 0), (13, .iconst 1, 14, 0, 1, 0, 0, 0), (14, .ireturn, 15, 0, 0, 0, 0, 0)]
def tJ0_isLatin1_aae02 : List E8 := [(0, .getstatic 38, 3, 525, 0, 0, 98, 0), (3, .ifCond .eq 14, 6, 17, 0, 0, 0, 0), (6, .aload_n 0, 7, 0, 0, 0, 0, 0), (7, .getfield 15, 10, 1364, 0, 0, 98, 0), (10, .ifCond .ne 7, 13, 17, 0, 0, 0, 0), (13, .iconst 1, 14, 0, 1, 0, 0, 0), (14, .goto 4, 17, 18, 0, 0, 0, 0), (17, .iconst 0, 18, 0, 0, 0, 0, 0), (18, .ireturn, 19, 0, 0, 0, 0, 0)]
def tJ0_checkIndex_df160 : List E8 := [(0, .iload_n 0, 1, 0, 0, 0, 0, 0), (1, .iload_n 1, 2, 0, 0, 0, 0, 1), (2, .getstatic 1053, 5, 541, 0, 0, 98, 0), (5, .invokestatic 1059, 8, 543, 0, 0, 0, 0), (8, .pop, 9, 0, 0, 0, 0, 0), (9, .return_, 10, 0, 0, 0, 0, 0)]
def tJ1_charAt_3b067 : List E8 := [(0, .iload_n 1, 1, 0, 0, 0, 0, 1), (1, .aload_n 0, 2, 0, 0, 0, 0, 0), (2, .arraylength, 3, 0, 0, 0, 0, 0), (3, .invokestatic 9, 6, 538, 0, 0, 0, 0), (6, .aload_n 0, 7, 0, 0, 0, 0, 0), (7, .iload_n 1, 8, 0, 0, 0, 0, 1), (8, .baload, 9, 0, 0, 0, 0, 0), (9, .sipush 255, 12, 0, 255, 0, 0, 0), (12, .iand, 13, 0, 0, 0, 0, 0), (13, .i2c, 14, 0, 0, 0, 0, 0), (14, .ireturn, 15, 0, 0, 0, 0, 0)]
def tJ2_getChar_3b067 : List E8 := [(0, .getstatic 44, 3, 559, 0, 0, 98, 0), (3, .ifCond .ne 25, 6, 28, 0, 0, 0, 0), (6, .iload_n 1, 7, 0, 0, 0, 0, 1), (7, .ifCond .lt 11, 10, 18, 0, 0, 0, 0), (10, .iload_n 1, 11, 0, 0, 0, 0, 1), (11, .aload_n 0, 12, 0, 0, 0, 0, 0), (12, .invokestatic 48, 15, 552, 0, 0, 0, 0), (15, .if_icmp .lt 13, 18, 28, 0, 0, 0, 0), (18, .new 52, 21, 0, 0, 0, 0, 0), (21, .dup, 22, 0, 0, 0, 0, 0), (22, .ldc 54, 24, 0, 0, 0, 0, 0), (24, .invokespecial 56, 27, 0, 0, 0, 0, 0), (27, .athrow, 28, 0, 0, 0, 0, 0), (28, .iload_n 1, 29, 0, 0, 0, 0, 1), (29, .iconst 1, 30, 0, 1, 0, 0, 0), (30, .ishl, 31, 0, 0, 0, 0, 0), (31, .istore_n 1, 32, 0, 0, 0, 0, 1), (32, .aload_n 0, 33, 0, 0, 0, 0, 0), (33, .iload_n 1, 34, 0, 0, 0, 0, 1), (34, .iinc 1 1, 37, 0, 1, 0, 0, 0), (37, .baload, 38, 0, 0, 0, 0, 0), (38, .sipush 255, 41, 0, 255, 0, 0, 0), (41, .iand, 42, 0, 0, 0, 0, 0), (42, .getstatic 59, 45, 561, 0, 0, 98, 0), (45, .ishl, 46, 0, 0, 0, 0, 0), (46, .aload_n 0, 47, 0, 0, 0, 0, 0), (47, .iload_n 1, 48, 0, 0, 0, 0, 1), (48, .baload, 49, 0, 0, 0, 0, 0), (49, .sipush 255, 52, 0, 255, 0, 0, 0), (52, .iand, 53, 0, 0, 0, 0, 0), (53, .getstatic 63, 56, 563, 0, 0, 98, 0), (56, .ishl, 57, 0, 0, 0, 0, 0), (57, .ior, 58, 0, 0, 0, 0, 0), (58, .i2c, 59, 0, 0, 0, 0, 0), (59, .ireturn, 60, 0, 0, 0, 0, 0)]
def tJ2_length_9d52b : List E8 := [(0, .aload_n 0, 1, 0, 0, 0, 0, 0), (1, .arraylength, 2, 0, 0, 0, 0, 0), (2, .iconst 1, 3, 0, 1, 0, 0, 0), (3, .ishr, 4, 0, 0, 0, 0, 0), (4, .ireturn, 5, 0, 0, 0, 0, 0)]
def tJ2_charAt_3b067 : List E8 := [(0, .iload_n 1, 1, 0, 0, 0, 0, 1), (1, .aload_n 0, 2, 0, 0, 0, 0, 0), (2, .invokestatic 67, 5, 549, 0, 0, 0, 0), (5, .aload_n 0, 6, 0, 0, 0, 0, 0), (6, .iload_n 1, 7, 0, 0, 0, 0, 1), (7, .invokestatic 71, 10, 556, 0, 0, 0, 0), (10, .ireturn, 11, 0, 0, 0, 0, 0)]
def tJ2_checkIndex_2214a : List E8 := [(0, .iload_n 0, 1, 0, 0, 0, 0, 0), (1, .aload_n 1, 2, 0, 0, 0, 0, 1), (2, .invokestatic 48, 5, 552, 0, 0, 0, 0), (5, .invokestatic 414, 8, 555, 0, 0, 0, 0), (8, .return_, 9, 0, 0, 0, 0, 0)]
def tJ3_checkIndex_8e157 : List E8 := [(0, .iload_n 0, 1, 0, 0, 0, 0, 0), (1, .ifCond .lt 8, 4, 9, 0, 0, 0, 0), (4, .iload_n 0, 5, 0, 0, 0, 0, 0), (5, .iload_n 1, 6, 0, 0, 0, 0, 1), (6, .if_icmp .lt 10, 9, 16, 0, 0, 0, 0), (9, .aload_n 2, 10, 0, 0, 0, 0, 2), (10, .iload_n 0, 11, 0, 0, 0, 0, 0), (11, .iload_n 1, 12, 0, 0, 0, 0, 1), (12, .invokestatic 95, 15, 0, 0, 0, 0, 0), (15, .athrow, 16, 0, 0, 0, 0, 0), (16, .iload_n 0, 17, 0, 0, 0, 0, 0), (17, .ireturn, 18, 0, 0, 0, 0, 0)]
def tL_law : List E8 := [(0, .new 7, 3, 126, 0, 0, 5, 127), (3, .dup, 4, 0, 0, 0, 0, 0), (4, .invokespecial 9, 7, 128, 0, 0, 0, 0), (7, .astore_n 1, 8, 0, 0, 0, 0, 1), (8, .new 10, 11, 873, 0, 0, 6, 874), (11, .dup, 12, 0, 0, 0, 0, 0), (12, .invokespecial 12, 15, 875, 0, 0, 0, 0), (15, .astore_n 2, 16, 0, 0, 0, 0, 2), (16, .iconst 0, 17, 0, 0, 0, 0, 0), (17, .istore_n 3, 18, 0, 0, 0, 0, 3), (18, .iload_n 3, 19, 0, 0, 0, 0, 3), (19, .aload_n 0, 20, 0, 0, 0, 0, 0), (20, .arraylength, 21, 0, 0, 0, 0, 0), (21, .bipush 6, 23, 0, 6, 0, 0, 0), (23, .isub, 24, 0, 0, 0, 0, 0), (24, .if_icmp .gt 984, 27, 1008, 0, 0, 0, 0), (27, .aload_n 0, 28, 0, 0, 0, 0, 0), (28, .iload_n 3, 29, 0, 0, 0, 0, 3), (29, .iaload, 30, 0, 0, 0, 0, 0), (30, .bipush 31, 32, 0, 31, 0, 0, 0), (32, .iand, 33, 0, 0, 0, 0, 0), (33, .tableswitch 969 0 28 #[131, 174, 207, 230, 263, 286, 299, 322, 345, 368, 381, 414, 437, 460, 493, 516, 539, 562, 595, 618, 641, 685, 698, 711, 734, 777, 820, 883, 936], 164, 0, 0, 0, 0, 0), (164, .aload_n 1, 165, 0, 0, 0, 0, 1), (165, .aload_n 0, 166, 0, 0, 0, 0, 0), (166, .iload_n 3, 167, 0, 0, 0, 0, 3), (167, .iconst 1, 168, 0, 1, 0, 0, 0), (168, .iadd, 169, 0, 0, 0, 0, 0), (169, .iaload, 170, 0, 0, 0, 0, 0), (170, .aload_n 0, 171, 0, 0, 0, 0, 0), (171, .iload_n 3, 172, 0, 0, 0, 0, 3), (172, .iconst 2, 173, 0, 2, 0, 0, 0), (173, .iadd, 174, 0, 0, 0, 0, 0), (174, .iaload, 175, 0, 0, 0, 0, 0), (175, .aload_n 0, 176, 0, 0, 0, 0, 0), (176, .iload_n 3, 177, 0, 0, 0, 0, 3), (177, .iconst 3, 178, 0, 3, 0, 0, 0), (178, .iadd, 179, 0, 0, 0, 0, 0), (179, .iaload, 180, 0, 0, 0, 0, 0), (180, .invokevirtual 13, 183, 323, 0, 0, 0, 0), (183, .aload_n 2, 184, 0, 0, 0, 0, 2), (184, .aload_n 0, 185, 0, 0, 0, 0, 0), (185, .iload_n 3, 186, 0, 0, 0, 0, 3), (186, .iconst 1, 187, 0, 1, 0, 0, 0), (187, .iadd, 188, 0, 0, 0, 0, 0), (188, .iaload, 189, 0, 0, 0, 0, 0), (189, .aload_n 0, 190, 0, 0, 0, 0, 0), (190, .iload_n 3, 191, 0, 0, 0, 0, 3), (191, .iconst 2, 192, 0, 2, 0, 0, 0), (192, .iadd, 193, 0, 0, 0, 0, 0), (193, .iaload, 194, 0, 0, 0, 0, 0), (194, .aload_n 0, 195, 0, 0, 0, 0, 0), (195, .iload_n 3, 196, 0, 0, 0, 0, 3), (196, .iconst 3, 197, 0, 3, 0, 0, 0), (197, .iadd, 198, 0, 0, 0, 0, 0), (198, .iaload, 199, 0, 0, 0, 0, 0), (199, .invokevirtual 17, 202, 1050, 0, 0, 0, 0), (202, .if_icmp .eq 800, 205, 1002, 0, 0, 0, 0), (205, .iconst 0, 206, 0, 0, 0, 0, 0), (206, .ireturn, 207, 0, 0, 0, 0, 0), (207, .aload_n 1, 208, 0, 0, 0, 0, 1), (208, .aload_n 0, 209, 0, 0, 0, 0, 0), (209, .iload_n 3, 210, 0, 0, 0, 0, 3), (210, .iconst 1, 211, 0, 1, 0, 0, 0), (211, .iadd, 212, 0, 0, 0, 0, 0), (212, .iaload, 213, 0, 0, 0, 0, 0), (213, .aload_n 0, 214, 0, 0, 0, 0, 0), (214, .iload_n 3, 215, 0, 0, 0, 0, 3), (215, .iconst 2, 216, 0, 2, 0, 0, 0), (216, .iadd, 217, 0, 0, 0, 0, 0), (217, .iaload, 218, 0, 0, 0, 0, 0), (218, .invokevirtual 18, 221, 443, 0, 0, 0, 0), (221, .aload_n 2, 222, 0, 0, 0, 0, 2), (222, .aload_n 0, 223, 0, 0, 0, 0, 0), (223, .iload_n 3, 224, 0, 0, 0, 0, 3), (224, .iconst 1, 225, 0, 1, 0, 0, 0), (225, .iadd, 226, 0, 0, 0, 0, 0), (226, .iaload, 227, 0, 0, 0, 0, 0), (227, .aload_n 0, 228, 0, 0, 0, 0, 0), (228, .iload_n 3, 229, 0, 0, 0, 0, 3), (229, .iconst 2, 230, 0, 2, 0, 0, 0), (230, .iadd, 231, 0, 0, 0, 0, 0), (231, .iaload, 232, 0, 0, 0, 0, 0), (232, .invokevirtual 22, 235, 1180, 0, 0, 0, 0), (235, .if_icmp .eq 767, 238, 1002, 0, 0, 0, 0), (238, .iconst 0, 239, 0, 0, 0, 0, 0), (239, .ireturn, 240, 0, 0, 0, 0, 0), (240, .aload_n 1, 241, 0, 0, 0, 0, 1), (241, .aload_n 0, 242, 0, 0, 0, 0, 0), (242, .iload_n 3, 243, 0, 0, 0, 0, 3), (243, .iconst 1, 244, 0, 1, 0, 0, 0), (244, .iadd, 245, 0, 0, 0, 0, 0), (245, .iaload, 246, 0, 0, 0, 0, 0), (246, .invokevirtual 23, 249, 454, 0, 0, 0, 0), (249, .aload_n 2, 250, 0, 0, 0, 0, 2), (250, .aload_n 0, 251, 0, 0, 0, 0, 0), (251, .iload_n 3, 252, 0, 0, 0, 0, 3), (252, .iconst 1, 253, 0, 1, 0, 0, 0), (253, .iadd, 254, 0, 0, 0, 0, 0), (254, .iaload, 255, 0, 0, 0, 0, 0), (255, .invokevirtual 27, 258, 1186, 0, 0, 0, 0), (258, .if_icmp .eq 744, 261, 1002, 0, 0, 0, 0), (261, .iconst 0, 262, 0, 0, 0, 0, 0), (262, .ireturn, 263, 0, 0, 0, 0, 0), (263, .aload_n 1, 264, 0, 0, 0, 0, 1), (264, .aload_n 0, 265, 0, 0, 0, 0, 0), (265, .iload_n 3, 266, 0, 0, 0, 0, 3), (266, .iconst 1, 267, 0, 1, 0, 0, 0), (267, .iadd, 268, 0, 0, 0, 0, 0), (268, .iaload, 269, 0, 0, 0, 0, 0), (269, .aload_n 0, 270, 0, 0, 0, 0, 0), (270, .iload_n 3, 271, 0, 0, 0, 0, 3), (271, .iconst 2, 272, 0, 2, 0, 0, 0), (272, .iadd, 273, 0, 0, 0, 0, 0), (273, .iaload, 274, 0, 0, 0, 0, 0), (274, .invokevirtual 28, 277, 462, 0, 0, 0, 0), (277, .aload_n 2, 278, 0, 0, 0, 0, 2), (278, .aload_n 0, 279, 0, 0, 0, 0, 0), (279, .iload_n 3, 280, 0, 0, 0, 0, 3), (280, .iconst 1, 281, 0, 1, 0, 0, 0), (281, .iadd, 282, 0, 0, 0, 0, 0), (282, .iaload, 283, 0, 0, 0, 0, 0), (283, .aload_n 0, 284, 0, 0, 0, 0, 0), (284, .iload_n 3, 285, 0, 0, 0, 0, 3), (285, .iconst 2, 286, 0, 2, 0, 0, 0), (286, .iadd, 287, 0, 0, 0, 0, 0), (287, .iaload, 288, 0, 0, 0, 0, 0), (288, .invokevirtual 31, 291, 1191, 0, 0, 0, 0), (291, .if_icmp .eq 711, 294, 1002, 0, 0, 0, 0), (294, .iconst 0, 295, 0, 0, 0, 0, 0), (295, .ireturn, 296, 0, 0, 0, 0, 0), (296, .aload_n 1, 297, 0, 0, 0, 0, 1), (297, .aload_n 0, 298, 0, 0, 0, 0, 0), (298, .iload_n 3, 299, 0, 0, 0, 0, 3), (299, .iconst 1, 300, 0, 1, 0, 0, 0), (300, .iadd, 301, 0, 0, 0, 0, 0), (301, .iaload, 302, 0, 0, 0, 0, 0), (302, .invokevirtual 32, 305, 463, 0, 0, 0, 0), (305, .aload_n 2, 306, 0, 0, 0, 0, 2), (306, .aload_n 0, 307, 0, 0, 0, 0, 0), (307, .iload_n 3, 308, 0, 0, 0, 0, 3), (308, .iconst 1, 309, 0, 1, 0, 0, 0), (309, .iadd, 310, 0, 0, 0, 0, 0), (310, .iaload, 311, 0, 0, 0, 0, 0), (311, .invokevirtual 35, 314, 1192, 0, 0, 0, 0), (314, .if_icmp .eq 688, 317, 1002, 0, 0, 0, 0), (317, .iconst 0, 318, 0, 0, 0, 0, 0), (318, .ireturn, 319, 0, 0, 0, 0, 0), (319, .aload_n 1, 320, 0, 0, 0, 0, 1), (320, .invokevirtual 36, 323, 471, 0, 0, 0, 0), (323, .aload_n 2, 324, 0, 0, 0, 0, 2), (324, .invokevirtual 40, 327, 1197, 0, 0, 0, 0), (327, .if_icmp .eq 675, 330, 1002, 0, 0, 0, 0), (330, .iconst 0, 331, 0, 0, 0, 0, 0), (331, .ireturn, 332, 0, 0, 0, 0, 0), (332, .aload_n 1, 333, 0, 0, 0, 0, 1), (333, .aload_n 0, 334, 0, 0, 0, 0, 0), (334, .iload_n 3, 335, 0, 0, 0, 0, 3), (335, .iconst 1, 336, 0, 1, 0, 0, 0), (336, .iadd, 337, 0, 0, 0, 0, 0), (337, .iaload, 338, 0, 0, 0, 0, 0), (338, .invokevirtual 41, 341, 612, 0, 0, 0, 0), (341, .aload_n 2, 342, 0, 0, 0, 0, 2), (342, .aload_n 0, 343, 0, 0, 0, 0, 0), (343, .iload_n 3, 344, 0, 0, 0, 0, 3), (344, .iconst 1, 345, 0, 1, 0, 0, 0), (345, .iadd, 346, 0, 0, 0, 0, 0), (346, .iaload, 347, 0, 0, 0, 0, 0), (347, .invokevirtual 44, 350, 1201, 0, 0, 0, 0), (350, .if_icmp .eq 652, 353, 1002, 0, 0, 0, 0), (353, .iconst 0, 354, 0, 0, 0, 0, 0), (354, .ireturn, 355, 0, 0, 0, 0, 0), (355, .aload_n 1, 356, 0, 0, 0, 0, 1), (356, .aload_n 0, 357, 0, 0, 0, 0, 0), (357, .iload_n 3, 358, 0, 0, 0, 0, 3), (358, .iconst 1, 359, 0, 1, 0, 0, 0), (359, .iadd, 360, 0, 0, 0, 0, 0), (360, .iaload, 361, 0, 0, 0, 0, 0), (361, .invokevirtual 45, 364, 617, 0, 0, 0, 0), (364, .aload_n 2, 365, 0, 0, 0, 0, 2), (365, .aload_n 0, 366, 0, 0, 0, 0, 0), (366, .iload_n 3, 367, 0, 0, 0, 0, 3), (367, .iconst 1, 368, 0, 1, 0, 0, 0), (368, .iadd, 369, 0, 0, 0, 0, 0), (369, .iaload, 370, 0, 0, 0, 0, 0), (370, .invokevirtual 48, 373, 1205, 0, 0, 0, 0), (373, .if_icmp .eq 629, 376, 1002, 0, 0, 0, 0), (376, .iconst 0, 377, 0, 0, 0, 0, 0), (377, .ireturn, 378, 0, 0, 0, 0, 0), (378, .aload_n 1, 379, 0, 0, 0, 0, 1), (379, .aload_n 0, 380, 0, 0, 0, 0, 0), (380, .iload_n 3, 381, 0, 0, 0, 0, 3), (381, .iconst 1, 382, 0, 1, 0, 0, 0), (382, .iadd, 383, 0, 0, 0, 0, 0), (383, .iaload, 384, 0, 0, 0, 0, 0), (384, .invokevirtual 49, 387, 639, 0, 0, 0, 0), (387, .aload_n 2, 388, 0, 0, 0, 0, 2), (388, .aload_n 0, 389, 0, 0, 0, 0, 0), (389, .iload_n 3, 390, 0, 0, 0, 0, 3), (390, .iconst 1, 391, 0, 1, 0, 0, 0), (391, .iadd, 392, 0, 0, 0, 0, 0), (392, .iaload, 393, 0, 0, 0, 0, 0), (393, .invokevirtual 52, 396, 1222, 0, 0, 0, 0), (396, .if_icmp .eq 606, 399, 1002, 0, 0, 0, 0), (399, .iconst 0, 400, 0, 0, 0, 0, 0), (400, .ireturn, 401, 0, 0, 0, 0, 0), (401, .aload_n 1, 402, 0, 0, 0, 0, 1), (402, .invokevirtual 53, 405, 648, 0, 0, 0, 0), (405, .aload_n 2, 406, 0, 0, 0, 0, 2), (406, .invokevirtual 56, 409, 1226, 0, 0, 0, 0), (409, .if_icmp .eq 593, 412, 1002, 0, 0, 0, 0), (412, .iconst 0, 413, 0, 0, 0, 0, 0), (413, .ireturn, 414, 0, 0, 0, 0, 0), (414, .aload_n 1, 415, 0, 0, 0, 0, 1), (415, .aload_n 0, 416, 0, 0, 0, 0, 0), (416, .iload_n 3, 417, 0, 0, 0, 0, 3), (417, .iconst 1, 418, 0, 1, 0, 0, 0), (418, .iadd, 419, 0, 0, 0, 0, 0), (419, .iaload, 420, 0, 0, 0, 0, 0), (420, .aload_n 0, 421, 0, 0, 0, 0, 0), (421, .iload_n 3, 422, 0, 0, 0, 0, 3), (422, .iconst 2, 423, 0, 2, 0, 0, 0), (423, .iadd, 424, 0, 0, 0, 0, 0), (424, .iaload, 425, 0, 0, 0, 0, 0), (425, .invokevirtual 57, 428, 667, 0, 0, 0, 0), (428, .aload_n 2, 429, 0, 0, 0, 0, 2), (429, .aload_n 0, 430, 0, 0, 0, 0, 0), (430, .iload_n 3, 431, 0, 0, 0, 0, 3), (431, .iconst 1, 432, 0, 1, 0, 0, 0), (432, .iadd, 433, 0, 0, 0, 0, 0), (433, .iaload, 434, 0, 0, 0, 0, 0), (434, .aload_n 0, 435, 0, 0, 0, 0, 0), (435, .iload_n 3, 436, 0, 0, 0, 0, 3), (436, .iconst 2, 437, 0, 2, 0, 0, 0), (437, .iadd, 438, 0, 0, 0, 0, 0), (438, .iaload, 439, 0, 0, 0, 0, 0), (439, .invokevirtual 60, 442, 1234, 0, 0, 0, 0), (442, .if_icmp .eq 560, 445, 1002, 0, 0, 0, 0), (445, .iconst 0, 446, 0, 0, 0, 0, 0), (446, .ireturn, 447, 0, 0, 0, 0, 0), (447, .aload_n 1, 448, 0, 0, 0, 0, 1), (448, .aload_n 0, 449, 0, 0, 0, 0, 0), (449, .iload_n 3, 450, 0, 0, 0, 0, 3), (450, .iconst 1, 451, 0, 1, 0, 0, 0), (451, .iadd, 452, 0, 0, 0, 0, 0), (452, .iaload, 453, 0, 0, 0, 0, 0), (453, .invokevirtual 61, 456, 678, 0, 0, 0, 0), (456, .aload_n 2, 457, 0, 0, 0, 0, 2), (457, .aload_n 0, 458, 0, 0, 0, 0, 0), (458, .iload_n 3, 459, 0, 0, 0, 0, 3), (459, .iconst 1, 460, 0, 1, 0, 0, 0), (460, .iadd, 461, 0, 0, 0, 0, 0), (461, .iaload, 462, 0, 0, 0, 0, 0), (462, .invokevirtual 64, 465, 1252, 0, 0, 0, 0), (465, .if_icmp .eq 537, 468, 1002, 0, 0, 0, 0), (468, .iconst 0, 469, 0, 0, 0, 0, 0), (469, .ireturn, 470, 0, 0, 0, 0, 0), (470, .aload_n 1, 471, 0, 0, 0, 0, 1), (471, .aload_n 0, 472, 0, 0, 0, 0, 0), (472, .iload_n 3, 473, 0, 0, 0, 0, 3), (473, .iconst 1, 474, 0, 1, 0, 0, 0), (474, .iadd, 475, 0, 0, 0, 0, 0), (475, .iaload, 476, 0, 0, 0, 0, 0), (476, .invokevirtual 65, 479, 682, 0, 0, 0, 0), (479, .aload_n 2, 480, 0, 0, 0, 0, 2), (480, .aload_n 0, 481, 0, 0, 0, 0, 0), (481, .iload_n 3, 482, 0, 0, 0, 0, 3), (482, .iconst 1, 483, 0, 1, 0, 0, 0), (483, .iadd, 484, 0, 0, 0, 0, 0), (484, .iaload, 485, 0, 0, 0, 0, 0), (485, .invokevirtual 68, 488, 1256, 0, 0, 0, 0), (488, .if_icmp .eq 514, 491, 1002, 0, 0, 0, 0), (491, .iconst 0, 492, 0, 0, 0, 0, 0), (492, .ireturn, 493, 0, 0, 0, 0, 0), (493, .aload_n 1, 494, 0, 0, 0, 0, 1), (494, .aload_n 0, 495, 0, 0, 0, 0, 0), (495, .iload_n 3, 496, 0, 0, 0, 0, 3), (496, .iconst 1, 497, 0, 1, 0, 0, 0), (497, .iadd, 498, 0, 0, 0, 0, 0), (498, .iaload, 499, 0, 0, 0, 0, 0), (499, .aload_n 0, 500, 0, 0, 0, 0, 0), (500, .iload_n 3, 501, 0, 0, 0, 0, 3), (501, .iconst 2, 502, 0, 2, 0, 0, 0), (502, .iadd, 503, 0, 0, 0, 0, 0), (503, .iaload, 504, 0, 0, 0, 0, 0), (504, .invokevirtual 69, 507, 686, 0, 0, 0, 0), (507, .aload_n 2, 508, 0, 0, 0, 0, 2), (508, .aload_n 0, 509, 0, 0, 0, 0, 0), (509, .iload_n 3, 510, 0, 0, 0, 0, 3), (510, .iconst 1, 511, 0, 1, 0, 0, 0), (511, .iadd, 512, 0, 0, 0, 0, 0), (512, .iaload, 513, 0, 0, 0, 0, 0), (513, .aload_n 0, 514, 0, 0, 0, 0, 0), (514, .iload_n 3, 515, 0, 0, 0, 0, 3), (515, .iconst 2, 516, 0, 2, 0, 0, 0), (516, .iadd, 517, 0, 0, 0, 0, 0), (517, .iaload, 518, 0, 0, 0, 0, 0), (518, .invokevirtual 72, 521, 1260, 0, 0, 0, 0), (521, .if_icmp .eq 481, 524, 1002, 0, 0, 0, 0), (524, .iconst 0, 525, 0, 0, 0, 0, 0), (525, .ireturn, 526, 0, 0, 0, 0, 0), (526, .aload_n 1, 527, 0, 0, 0, 0, 1), (527, .aload_n 0, 528, 0, 0, 0, 0, 0), (528, .iload_n 3, 529, 0, 0, 0, 0, 3), (529, .iconst 1, 530, 0, 1, 0, 0, 0), (530, .iadd, 531, 0, 0, 0, 0, 0), (531, .iaload, 532, 0, 0, 0, 0, 0), (532, .invokevirtual 73, 535, 695, 0, 0, 0, 0), (535, .aload_n 2, 536, 0, 0, 0, 0, 2), (536, .aload_n 0, 537, 0, 0, 0, 0, 0), (537, .iload_n 3, 538, 0, 0, 0, 0, 3), (538, .iconst 1, 539, 0, 1, 0, 0, 0), (539, .iadd, 540, 0, 0, 0, 0, 0), (540, .iaload, 541, 0, 0, 0, 0, 0), (541, .invokevirtual 76, 544, 1269, 0, 0, 0, 0), (544, .if_icmp .eq 458, 547, 1002, 0, 0, 0, 0), (547, .iconst 0, 548, 0, 0, 0, 0, 0), (548, .ireturn, 549, 0, 0, 0, 0, 0), (549, .aload_n 1, 550, 0, 0, 0, 0, 1), (550, .aload_n 0, 551, 0, 0, 0, 0, 0), (551, .iload_n 3, 552, 0, 0, 0, 0, 3), (552, .iconst 1, 553, 0, 1, 0, 0, 0), (553, .iadd, 554, 0, 0, 0, 0, 0), (554, .iaload, 555, 0, 0, 0, 0, 0), (555, .invokevirtual 77, 558, 699, 0, 0, 0, 0), (558, .aload_n 2, 559, 0, 0, 0, 0, 2), (559, .aload_n 0, 560, 0, 0, 0, 0, 0), (560, .iload_n 3, 561, 0, 0, 0, 0, 3), (561, .iconst 1, 562, 0, 1, 0, 0, 0), (562, .iadd, 563, 0, 0, 0, 0, 0), (563, .iaload, 564, 0, 0, 0, 0, 0), (564, .invokevirtual 80, 567, 1273, 0, 0, 0, 0), (567, .if_icmp .eq 435, 570, 1002, 0, 0, 0, 0), (570, .iconst 0, 571, 0, 0, 0, 0, 0), (571, .ireturn, 572, 0, 0, 0, 0, 0), (572, .aload_n 1, 573, 0, 0, 0, 0, 1), (573, .aload_n 0, 574, 0, 0, 0, 0, 0), (574, .iload_n 3, 575, 0, 0, 0, 0, 3), (575, .iconst 1, 576, 0, 1, 0, 0, 0), (576, .iadd, 577, 0, 0, 0, 0, 0), (577, .iaload, 578, 0, 0, 0, 0, 0), (578, .invokevirtual 81, 581, 719, 0, 0, 0, 0), (581, .aload_n 2, 582, 0, 0, 0, 0, 2), (582, .aload_n 0, 583, 0, 0, 0, 0, 0), (583, .iload_n 3, 584, 0, 0, 0, 0, 3), (584, .iconst 1, 585, 0, 1, 0, 0, 0), (585, .iadd, 586, 0, 0, 0, 0, 0), (586, .iaload, 587, 0, 0, 0, 0, 0), (587, .invokevirtual 84, 590, 1285, 0, 0, 0, 0), (590, .if_icmp .eq 412, 593, 1002, 0, 0, 0, 0), (593, .iconst 0, 594, 0, 0, 0, 0, 0), (594, .ireturn, 595, 0, 0, 0, 0, 0), (595, .aload_n 1, 596, 0, 0, 0, 0, 1), (596, .aload_n 0, 597, 0, 0, 0, 0, 0), (597, .iload_n 3, 598, 0, 0, 0, 0, 3), (598, .iconst 1, 599, 0, 1, 0, 0, 0), (599, .iadd, 600, 0, 0, 0, 0, 0), (600, .iaload, 601, 0, 0, 0, 0, 0), (601, .aload_n 0, 602, 0, 0, 0, 0, 0), (602, .iload_n 3, 603, 0, 0, 0, 0, 3), (603, .iconst 2, 604, 0, 2, 0, 0, 0), (604, .iadd, 605, 0, 0, 0, 0, 0), (605, .iaload, 606, 0, 0, 0, 0, 0), (606, .invokevirtual 85, 609, 723, 0, 0, 0, 0), (609, .aload_n 2, 610, 0, 0, 0, 0, 2), (610, .aload_n 0, 611, 0, 0, 0, 0, 0), (611, .iload_n 3, 612, 0, 0, 0, 0, 3), (612, .iconst 1, 613, 0, 1, 0, 0, 0), (613, .iadd, 614, 0, 0, 0, 0, 0), (614, .iaload, 615, 0, 0, 0, 0, 0), (615, .aload_n 0, 616, 0, 0, 0, 0, 0), (616, .iload_n 3, 617, 0, 0, 0, 0, 3), (617, .iconst 2, 618, 0, 2, 0, 0, 0), (618, .iadd, 619, 0, 0, 0, 0, 0), (619, .iaload, 620, 0, 0, 0, 0, 0), (620, .invokevirtual 88, 623, 1289, 0, 0, 0, 0), (623, .if_icmp .eq 379, 626, 1002, 0, 0, 0, 0), (626, .iconst 0, 627, 0, 0, 0, 0, 0), (627, .ireturn, 628, 0, 0, 0, 0, 0), (628, .aload_n 1, 629, 0, 0, 0, 0, 1), (629, .aload_n 0, 630, 0, 0, 0, 0, 0), (630, .iload_n 3, 631, 0, 0, 0, 0, 3), (631, .iconst 1, 632, 0, 1, 0, 0, 0), (632, .iadd, 633, 0, 0, 0, 0, 0), (633, .iaload, 634, 0, 0, 0, 0, 0), (634, .invokevirtual 89, 637, 789, 0, 0, 0, 0), (637, .aload_n 2, 638, 0, 0, 0, 0, 2), (638, .aload_n 0, 639, 0, 0, 0, 0, 0), (639, .iload_n 3, 640, 0, 0, 0, 0, 3), (640, .iconst 1, 641, 0, 1, 0, 0, 0), (641, .iadd, 642, 0, 0, 0, 0, 0), (642, .iaload, 643, 0, 0, 0, 0, 0), (643, .invokevirtual 92, 646, 1301, 0, 0, 0, 0), (646, .if_icmp .eq 356, 649, 1002, 0, 0, 0, 0), (649, .iconst 0, 650, 0, 0, 0, 0, 0), (650, .ireturn, 651, 0, 0, 0, 0, 0), (651, .aload_n 1, 652, 0, 0, 0, 0, 1), (652, .aload_n 0, 653, 0, 0, 0, 0, 0), (653, .iload_n 3, 654, 0, 0, 0, 0, 3), (654, .iconst 1, 655, 0, 1, 0, 0, 0), (655, .iadd, 656, 0, 0, 0, 0, 0), (656, .iaload, 657, 0, 0, 0, 0, 0), (657, .invokevirtual 93, 660, 801, 0, 0, 0, 0), (660, .aload_n 2, 661, 0, 0, 0, 0, 2), (661, .aload_n 0, 662, 0, 0, 0, 0, 0), (662, .iload_n 3, 663, 0, 0, 0, 0, 3), (663, .iconst 1, 664, 0, 1, 0, 0, 0), (664, .iadd, 665, 0, 0, 0, 0, 0), (665, .iaload, 666, 0, 0, 0, 0, 0), (666, .invokevirtual 96, 669, 1310, 0, 0, 0, 0), (669, .if_icmp .eq 333, 672, 1002, 0, 0, 0, 0), (672, .iconst 0, 673, 0, 0, 0, 0, 0), (673, .ireturn, 674, 0, 0, 0, 0, 0), (674, .aload_n 1, 675, 0, 0, 0, 0, 1), (675, .aload_n 0, 676, 0, 0, 0, 0, 0), (676, .iload_n 3, 677, 0, 0, 0, 0, 3), (677, .iconst 1, 678, 0, 1, 0, 0, 0), (678, .iadd, 679, 0, 0, 0, 0, 0), (679, .iaload, 680, 0, 0, 0, 0, 0), (680, .aload_n 0, 681, 0, 0, 0, 0, 0), (681, .iload_n 3, 682, 0, 0, 0, 0, 3), (682, .iconst 2, 683, 0, 2, 0, 0, 0), (683, .iadd, 684, 0, 0, 0, 0, 0), (684, .iaload, 685, 0, 0, 0, 0, 0), (685, .aload_n 0, 686, 0, 0, 0, 0, 0), (686, .iload_n 3, 687, 0, 0, 0, 0, 3), (687, .iconst 3, 688, 0, 3, 0, 0, 0), (688, .iadd, 689, 0, 0, 0, 0, 0), (689, .iaload, 690, 0, 0, 0, 0, 0), (690, .invokevirtual 97, 693, 811, 0, 0, 0, 0), (693, .aload_n 2, 694, 0, 0, 0, 0, 2), (694, .aload_n 0, 695, 0, 0, 0, 0, 0), (695, .iload_n 3, 696, 0, 0, 0, 0, 3), (696, .iconst 1, 697, 0, 1, 0, 0, 0), (697, .iadd, 698, 0, 0, 0, 0, 0), (698, .iaload, 699, 0, 0, 0, 0, 0), (699, .aload_n 0, 700, 0, 0, 0, 0, 0), (700, .iload_n 3, 701, 0, 0, 0, 0, 3), (701, .iconst 2, 702, 0, 2, 0, 0, 0), (702, .iadd, 703, 0, 0, 0, 0, 0), (703, .iaload, 704, 0, 0, 0, 0, 0), (704, .aload_n 0, 705, 0, 0, 0, 0, 0), (705, .iload_n 3, 706, 0, 0, 0, 0, 3), (706, .iconst 3, 707, 0, 3, 0, 0, 0), (707, .iadd, 708, 0, 0, 0, 0, 0), (708, .iaload, 709, 0, 0, 0, 0, 0), (709, .invokevirtual 101, 712, 1323, 0, 0, 0, 0), (712, .lcmp, 713, 0, 0, 0, 0, 0), (713, .ifCond .eq 289, 716, 1002, 0, 0, 0, 0), (716, .iconst 0, 717, 0, 0, 0, 0, 0), (717, .ireturn, 718, 0, 0, 0, 0, 0), (718, .aload_n 1, 719, 0, 0, 0, 0, 1), (719, .invokevirtual 102, 722, 819, 0, 0, 0, 0), (722, .aload_n 2, 723, 0, 0, 0, 0, 2), (723, .invokevirtual 105, 726, 1329, 0, 0, 0, 0), (726, .if_icmp .eq 276, 729, 1002, 0, 0, 0, 0), (729, .iconst 0, 730, 0, 0, 0, 0, 0), (730, .ireturn, 731, 0, 0, 0, 0, 0), (731, .aload_n 1, 732, 0, 0, 0, 0, 1), (732, .invokevirtual 106, 735, 823, 0, 0, 0, 0), (735, .aload_n 2, 736, 0, 0, 0, 0, 2), (736, .invokevirtual 109, 739, 1333, 0, 0, 0, 0), (739, .if_icmp .eq 263, 742, 1002, 0, 0, 0, 0), (742, .iconst 0, 743, 0, 0, 0, 0, 0), (743, .ireturn, 744, 0, 0, 0, 0, 0), (744, .aload_n 1, 745, 0, 0, 0, 0, 1), (745, .aload_n 0, 746, 0, 0, 0, 0, 0), (746, .iload_n 3, 747, 0, 0, 0, 0, 3), (747, .iconst 1, 748, 0, 1, 0, 0, 0), (748, .iadd, 749, 0, 0, 0, 0, 0), (749, .iaload, 750, 0, 0, 0, 0, 0), (750, .invokevirtual 110, 753, 827, 0, 0, 0, 0), (753, .aload_n 2, 754, 0, 0, 0, 0, 2), (754, .aload_n 0, 755, 0, 0, 0, 0, 0), (755, .iload_n 3, 756, 0, 0, 0, 0, 3), (756, .iconst 1, 757, 0, 1, 0, 0, 0), (757, .iadd, 758, 0, 0, 0, 0, 0), (758, .iaload, 759, 0, 0, 0, 0, 0), (759, .invokevirtual 113, 762, 1337, 0, 0, 0, 0), (762, .if_icmp .eq 240, 765, 1002, 0, 0, 0, 0), (765, .iconst 0, 766, 0, 0, 0, 0, 0), (766, .ireturn, 767, 0, 0, 0, 0, 0), (767, .aload_n 1, 768, 0, 0, 0, 0, 1), (768, .aload_n 0, 769, 0, 0, 0, 0, 0), (769, .iload_n 3, 770, 0, 0, 0, 0, 3), (770, .iconst 1, 771, 0, 1, 0, 0, 0), (771, .iadd, 772, 0, 0, 0, 0, 0), (772, .iaload, 773, 0, 0, 0, 0, 0), (773, .aload_n 0, 774, 0, 0, 0, 0, 0), (774, .iload_n 3, 775, 0, 0, 0, 0, 3), (775, .iconst 2, 776, 0, 2, 0, 0, 0), (776, .iadd, 777, 0, 0, 0, 0, 0), (777, .iaload, 778, 0, 0, 0, 0, 0), (778, .aload_n 0, 779, 0, 0, 0, 0, 0), (779, .iload_n 3, 780, 0, 0, 0, 0, 3), (780, .iconst 3, 781, 0, 3, 0, 0, 0), (781, .iadd, 782, 0, 0, 0, 0, 0), (782, .iaload, 783, 0, 0, 0, 0, 0), (783, .invokevirtual 114, 786, 831, 0, 0, 0, 0), (786, .aload_n 2, 787, 0, 0, 0, 0, 2), (787, .aload_n 0, 788, 0, 0, 0, 0, 0), (788, .iload_n 3, 789, 0, 0, 0, 0, 3), (789, .iconst 1, 790, 0, 1, 0, 0, 0), (790, .iadd, 791, 0, 0, 0, 0, 0), (791, .iaload, 792, 0, 0, 0, 0, 0), (792, .aload_n 0, 793, 0, 0, 0, 0, 0), (793, .iload_n 3, 794, 0, 0, 0, 0, 3), (794, .iconst 2, 795, 0, 2, 0, 0, 0), (795, .iadd, 796, 0, 0, 0, 0, 0), (796, .iaload, 797, 0, 0, 0, 0, 0), (797, .aload_n 0, 798, 0, 0, 0, 0, 0), (798, .iload_n 3, 799, 0, 0, 0, 0, 3), (799, .iconst 3, 800, 0, 3, 0, 0, 0), (800, .iadd, 801, 0, 0, 0, 0, 0), (801, .iaload, 802, 0, 0, 0, 0, 0), (802, .invokevirtual 117, 805, 1341, 0, 0, 0, 0), (805, .if_icmp .eq 197, 808, 1002, 0, 0, 0, 0), (808, .iconst 0, 809, 0, 0, 0, 0, 0), (809, .ireturn, 810, 0, 0, 0, 0, 0), (810, .aload_n 1, 811, 0, 0, 0, 0, 1), (811, .aload_n 0, 812, 0, 0, 0, 0, 0), (812, .iload_n 3, 813, 0, 0, 0, 0, 3), (813, .iconst 1, 814, 0, 1, 0, 0, 0), (814, .iadd, 815, 0, 0, 0, 0, 0), (815, .iaload, 816, 0, 0, 0, 0, 0), (816, .aload_n 0, 817, 0, 0, 0, 0, 0), (817, .iload_n 3, 818, 0, 0, 0, 0, 3), (818, .iconst 2, 819, 0, 2, 0, 0, 0), (819, .iadd, 820, 0, 0, 0, 0, 0), (820, .iaload, 821, 0, 0, 0, 0, 0), (821, .aload_n 0, 822, 0, 0, 0, 0, 0), (822, .iload_n 3, 823, 0, 0, 0, 0, 3), (823, .iconst 3, 824, 0, 3, 0, 0, 0), (824, .iadd, 825, 0, 0, 0, 0, 0), (825, .iaload, 826, 0, 0, 0, 0, 0), (826, .invokevirtual 118, 829, 838, 0, 0, 0, 0), (829, .aload_n 2, 830, 0, 0, 0, 0, 2), (830, .aload_n 0, 831, 0, 0, 0, 0, 0), (831, .iload_n 3, 832, 0, 0, 0, 0, 3), (832, .iconst 1, 833, 0, 1, 0, 0, 0), (833, .iadd, 834, 0, 0, 0, 0, 0), (834, .iaload, 835, 0, 0, 0, 0, 0), (835, .aload_n 0, 836, 0, 0, 0, 0, 0), (836, .iload_n 3, 837, 0, 0, 0, 0, 3), (837, .iconst 2, 838, 0, 2, 0, 0, 0), (838, .iadd, 839, 0, 0, 0, 0, 0), (839, .iaload, 840, 0, 0, 0, 0, 0), (840, .aload_n 0, 841, 0, 0, 0, 0, 0), (841, .iload_n 3, 842, 0, 0, 0, 0, 3), (842, .iconst 3, 843, 0, 3, 0, 0, 0), (843, .iadd, 844, 0, 0, 0, 0, 0), (844, .iaload, 845, 0, 0, 0, 0, 0), (845, .invokevirtual 121, 848, 1342, 0, 0, 0, 0), (848, .if_icmp .eq 154, 851, 1002, 0, 0, 0, 0), (851, .iconst 0, 852, 0, 0, 0, 0, 0), (852, .ireturn, 853, 0, 0, 0, 0, 0), (853, .aload_n 1, 854, 0, 0, 0, 0, 1), (854, .aload_n 0, 855, 0, 0, 0, 0, 0), (855, .iload_n 3, 856, 0, 0, 0, 0, 3), (856, .iconst 1, 857, 0, 1, 0, 0, 0), (857, .iadd, 858, 0, 0, 0, 0, 0), (858, .iaload, 859, 0, 0, 0, 0, 0), (859, .aload_n 0, 860, 0, 0, 0, 0, 0), (860, .iload_n 3, 861, 0, 0, 0, 0, 3), (861, .iconst 2, 862, 0, 2, 0, 0, 0), (862, .iadd, 863, 0, 0, 0, 0, 0), (863, .iaload, 864, 0, 0, 0, 0, 0), (864, .aload_n 0, 865, 0, 0, 0, 0, 0), (865, .iload_n 3, 866, 0, 0, 0, 0, 3), (866, .iconst 3, 867, 0, 3, 0, 0, 0), (867, .iadd, 868, 0, 0, 0, 0, 0), (868, .iaload, 869, 0, 0, 0, 0, 0), (869, .aload_n 0, 870, 0, 0, 0, 0, 0), (870, .iload_n 3, 871, 0, 0, 0, 0, 3), (871, .iconst 4, 872, 0, 4, 0, 0, 0), (872, .iadd, 873, 0, 0, 0, 0, 0), (873, .iaload, 874, 0, 0, 0, 0, 0), (874, .aload_n 0, 875, 0, 0, 0, 0, 0), (875, .iload_n 3, 876, 0, 0, 0, 0, 3), (876, .iconst 5, 877, 0, 5, 0, 0, 0), (877, .iadd, 878, 0, 0, 0, 0, 0), (878, .iaload, 879, 0, 0, 0, 0, 0), (879, .invokevirtual 122, 882, 843, 0, 0, 0, 0), (882, .aload_n 2, 883, 0, 0, 0, 0, 2), (883, .aload_n 0, 884, 0, 0, 0, 0, 0), (884, .iload_n 3, 885, 0, 0, 0, 0, 3), (885, .iconst 1, 886, 0, 1, 0, 0, 0), (886, .iadd, 887, 0, 0, 0, 0, 0), (887, .iaload, 888, 0, 0, 0, 0, 0), (888, .aload_n 0, 889, 0, 0, 0, 0, 0), (889, .iload_n 3, 890, 0, 0, 0, 0, 3), (890, .iconst 2, 891, 0, 2, 0, 0, 0), (891, .iadd, 892, 0, 0, 0, 0, 0), (892, .iaload, 893, 0, 0, 0, 0, 0), (893, .aload_n 0, 894, 0, 0, 0, 0, 0), (894, .iload_n 3, 895, 0, 0, 0, 0, 3), (895, .iconst 3, 896, 0, 3, 0, 0, 0), (896, .iadd, 897, 0, 0, 0, 0, 0), (897, .iaload, 898, 0, 0, 0, 0, 0), (898, .aload_n 0, 899, 0, 0, 0, 0, 0), (899, .iload_n 3, 900, 0, 0, 0, 0, 3), (900, .iconst 4, 901, 0, 4, 0, 0, 0), (901, .iadd, 902, 0, 0, 0, 0, 0), (902, .iaload, 903, 0, 0, 0, 0, 0), (903, .aload_n 0, 904, 0, 0, 0, 0, 0), (904, .iload_n 3, 905, 0, 0, 0, 0, 3), (905, .iconst 5, 906, 0, 5, 0, 0, 0), (906, .iadd, 907, 0, 0, 0, 0, 0), (907, .iaload, 908, 0, 0, 0, 0, 0), (908, .invokevirtual 126, 911, 1346, 0, 0, 0, 0), (911, .if_icmp .eq 91, 914, 1002, 0, 0, 0, 0), (914, .iconst 0, 915, 0, 0, 0, 0, 0), (915, .ireturn, 916, 0, 0, 0, 0, 0), (916, .aload_n 1, 917, 0, 0, 0, 0, 1), (917, .aload_n 0, 918, 0, 0, 0, 0, 0), (918, .iload_n 3, 919, 0, 0, 0, 0, 3), (919, .iconst 1, 920, 0, 1, 0, 0, 0), (920, .iadd, 921, 0, 0, 0, 0, 0), (921, .iaload, 922, 0, 0, 0, 0, 0), (922, .aload_n 0, 923, 0, 0, 0, 0, 0), (923, .iload_n 3, 924, 0, 0, 0, 0, 3), (924, .iconst 2, 925, 0, 2, 0, 0, 0), (925, .iadd, 926, 0, 0, 0, 0, 0), (926, .iaload, 927, 0, 0, 0, 0, 0), (927, .aload_n 0, 928, 0, 0, 0, 0, 0), (928, .iload_n 3, 929, 0, 0, 0, 0, 3), (929, .iconst 3, 930, 0, 3, 0, 0, 0), (930, .iadd, 931, 0, 0, 0, 0, 0), (931, .iaload, 932, 0, 0, 0, 0, 0), (932, .aload_n 0, 933, 0, 0, 0, 0, 0), (933, .iload_n 3, 934, 0, 0, 0, 0, 3), (934, .iconst 4, 935, 0, 4, 0, 0, 0), (935, .iadd, 936, 0, 0, 0, 0, 0), (936, .iaload, 937, 0, 0, 0, 0, 0), (937, .invokevirtual 127, 940, 858, 0, 0, 0, 0), (940, .aload_n 2, 941, 0, 0, 0, 0, 2), (941, .aload_n 0, 942, 0, 0, 0, 0, 0), (942, .iload_n 3, 943, 0, 0, 0, 0, 3), (943, .iconst 1, 944, 0, 1, 0, 0, 0), (944, .iadd, 945, 0, 0, 0, 0, 0), (945, .iaload, 946, 0, 0, 0, 0, 0), (946, .aload_n 0, 947, 0, 0, 0, 0, 0), (947, .iload_n 3, 948, 0, 0, 0, 0, 3), (948, .iconst 2, 949, 0, 2, 0, 0, 0), (949, .iadd, 950, 0, 0, 0, 0, 0), (950, .iaload, 951, 0, 0, 0, 0, 0), (951, .aload_n 0, 952, 0, 0, 0, 0, 0), (952, .iload_n 3, 953, 0, 0, 0, 0, 3), (953, .iconst 3, 954, 0, 3, 0, 0, 0), (954, .iadd, 955, 0, 0, 0, 0, 0), (955, .iaload, 956, 0, 0, 0, 0, 0), (956, .aload_n 0, 957, 0, 0, 0, 0, 0), (957, .iload_n 3, 958, 0, 0, 0, 0, 3), (958, .iconst 4, 959, 0, 4, 0, 0, 0), (959, .iadd, 960, 0, 0, 0, 0, 0), (960, .iaload, 961, 0, 0, 0, 0, 0), (961, .invokevirtual 131, 964, 1350, 0, 0, 0, 0), (964, .if_icmp .eq 38, 967, 1002, 0, 0, 0, 0), (967, .iconst 0, 968, 0, 0, 0, 0, 0), (968, .ireturn, 969, 0, 0, 0, 0, 0), (969, .aload_n 1, 970, 0, 0, 0, 0, 1), (970, .aload_n 0, 971, 0, 0, 0, 0, 0), (971, .iload_n 3, 972, 0, 0, 0, 0, 3), (972, .iconst 1, 973, 0, 1, 0, 0, 0), (973, .iadd, 974, 0, 0, 0, 0, 0), (974, .iaload, 975, 0, 0, 0, 0, 0), (975, .aload_n 0, 976, 0, 0, 0, 0, 0), (976, .iload_n 3, 977, 0, 0, 0, 0, 3), (977, .iconst 2, 978, 0, 2, 0, 0, 0), (978, .iadd, 979, 0, 0, 0, 0, 0), (979, .iaload, 980, 0, 0, 0, 0, 0), (980, .invokevirtual 132, 983, 863, 0, 0, 0, 0), (983, .aload_n 2, 984, 0, 0, 0, 0, 2), (984, .aload_n 0, 985, 0, 0, 0, 0, 0), (985, .iload_n 3, 986, 0, 0, 0, 0, 3), (986, .iconst 1, 987, 0, 1, 0, 0, 0), (987, .iadd, 988, 0, 0, 0, 0, 0), (988, .iaload, 989, 0, 0, 0, 0, 0), (989, .aload_n 0, 990, 0, 0, 0, 0, 0), (990, .iload_n 3, 991, 0, 0, 0, 0, 3), (991, .iconst 2, 992, 0, 2, 0, 0, 0), (992, .iadd, 993, 0, 0, 0, 0, 0), (993, .iaload, 994, 0, 0, 0, 0, 0), (994, .invokevirtual 135, 997, 1356, 0, 0, 0, 0), (997, .if_icmp .eq 5, 1000, 1002, 0, 0, 0, 0), (1000, .iconst 0, 1001, 0, 0, 0, 0, 0), (1001, .ireturn, 1002, 0, 0, 0, 0, 0), (1002, .iinc 3 6, 1005, 0, 6, 0, 0, 0), (1005, .goto (-987), 1008, 18, 0, 0, 0, 0), (1008, .iconst 1, 1009, 0, 1, 0, 0, 0), (1009, .ireturn, 1010, 0, 0, 0, 0, 0)]
/-! methods: class, name, bytes, locals, answer, the place of its code word, code -/
abbrev MT : Type := String × MethodName × ByteArray × Nat × Option FieldType × Nat × List E8
def mX0_init : MT := (RX0, yX0_init, cX0_init, 2, none, 210, tX0_init)
def mX0_become : MT := (RX0, yX0_become, cX0_become, 2, none, 674, tX0_become)
def mX0_hasCitizen : MT := (RX0, yX0_hasCitizen, cX0_hasCitizen, 2, some .boolean, 334, tX0_hasCitizen)
def mX0_hasItem : MT := (RX0, yX0_hasItem, cX0_hasItem, 2, some .boolean, 414, tX0_hasItem)
def mX0_everyone : MT := (RX0, yX0_everyone, cX0_everyone, 1, some .int, 635, tX0_everyone)
def mX0_addCitizen : MT := (RX0, yX0_addCitizen, cX0_addCitizen, 3, some .int, 453, tX0_addCitizen)
def mX0_addItem : MT := (RX0, yX0_addItem, cX0_addItem, 2, some .int, 461, tX0_addItem)
def mX0_kindOf : MT := (RX0, yX0_kindOf, cX0_kindOf, 2, some .int, 351, tX0_kindOf)
def mX0_numberOf : MT := (RX0, yX0_numberOf, cX0_numberOf, 2, some .int, 342, tX0_numberOf)
def mX0_bribeOf : MT := (RX0, yX0_bribeOf, cX0_bribeOf, 2, some .int, 347, tX0_bribeOf)
def mX0_putKind : MT := (RX0, yX0_putKind, cX0_putKind, 3, none, 780, tX0_putKind)
def mX0_putNumber : MT := (RX0, yX0_putNumber, cX0_putNumber, 3, none, 438, tX0_putNumber)
def mX0_putBribe : MT := (RX0, yX0_putBribe, cX0_putBribe, 3, none, 442, tX0_putBribe)
def mX0_takesOf : MT := (RX0, yX0_takesOf, cX0_takesOf, 2, some .int, 422, tX0_takesOf)
def mX0_soFarOf : MT := (RX0, yX0_soFarOf, cX0_soFarOf, 2, some .int, 427, tX0_soFarOf)
def mX0_doneAt : MT := (RX0, yX0_doneAt, cX0_doneAt, 2, some .int, 431, tX0_doneAt)
def mX0_itemsDone : MT := (RX0, yX0_itemsDone, cX0_itemsDone, 3, some .int, 655, tX0_itemsDone)
def mX0_drawBribes : MT := (RX0, yX0_drawBribes, cX0_drawBribes, 4, none, 808, tX0_drawBribes)
def mX0_lookAt : MT := (RX0, yX0_lookAt, cX0_lookAt, 3, none, 363, tX0_lookAt)
def mX0_isRead : MT := (RX0, yX0_isRead, cX0_isRead, 4, some .boolean, 359, tX0_isRead)
def mX0_silenceOf : MT := (RX0, yX0_silenceOf, cX0_silenceOf, 3, some .int, 400, tX0_silenceOf)
def mX0_timeOf : MT := (RX0, yX0_timeOf, cX0_timeOf, 3, some .int, 407, tX0_timeOf)
def mX0_listed : MT := (RX0, yX0_listed, cX0_listed, 3, some .int, 355, tX0_listed)
def mX0_spentOn : MT := (RX0, yX0_spentOn, cX0_spentOn, 5, some .int, 625, tX0_spentOn)
def mX0_spentBy : MT := (RX0, yX0_spentBy, cX0_spentBy, 2, some .int, 647, tX0_spentBy)
def mX0_spentByList : MT := (RX0, yX0_spentByList, cX0_spentByList, 1, some .int, 768, tX0_spentByList)
def mX0_minutesLeft : MT := (RX0, yX0_minutesLeft, cX0_minutesLeft, 1, some .int, 631, tX0_minutesLeft)
def mX0_hold : MT := (RX0, yX0_hold, cX0_hold, 3, some .int, 660, tX0_hold)
def mX0_goOnWith : MT := (RX0, yX0_goOnWith, cX0_goOnWith, 4, some .int, 665, tX0_goOnWith)
def mX0_doneWithin : MT := (RX0, yX0_doneWithin, cX0_doneWithin, 4, some .int, 693, tX0_doneWithin)
def mX1_isOne : MT := (RX1, yX1_isOne, cX1_isOne, 1, some .boolean, 449, tX1_isOne)
def mX1_above : MT := (RX1, yX1_above, cX1_above, 1, some .int, 872, tX1_above)
def mX1_isUnder : MT := (RX1, yX1_isUnder, cX1_isUnder, 4, some .boolean, 869, tX1_isUnder)
def mX1_isRead : MT := (RX1, yX1_isRead, cX1_isRead, 6, some .boolean, 395, tX1_isRead)
def mX1_silence : MT := (RX1, yX1_silence, cX1_silence, 5, some .int, 403, tX1_silence)
def mX1_time : MT := (RX1, yX1_time, cX1_time, 4, some .int, 410, tX1_time)
def mX2_init : MT := (RX2, yX2_init, cX2_init, 1, none, 262, tX2_init)
def mX2_weigh : MT := (RX2, yX2_weigh, cX2_weigh, 5, none, 706, tX2_weigh)
def mX2_tryAll : MT := (RX2, yX2_tryAll, cX2_tryAll, 8, none, 714, tX2_tryAll)
def mX2_sittingAfter : MT := (RX2, yX2_sittingAfter, cX2_sittingAfter, 3, some .int, 718, tX2_sittingAfter)
def mX3_init : MT := (RX3, yX3_init, cX3_init, 2, none, 181, tX3_init)
def mX3_addByte : MT := (RX3, yX3_addByte, cX3_addByte, 2, some .int, 470, tX3_addByte)
def mX3_readTape : MT := (RX3, yX3_readTape, cX3_readTape, 3, some .int, 482, tX3_readTape)
def mX3_passed : MT := (RX3, yX3_passed, cX3_passed, 2, some .boolean, 578, tX3_passed)
def mX3_readOr : MT := (RX3, yX3_readOr, cX3_readOr, 4, some .boolean, 582, tX3_readOr)
def mX3_readAnd : MT := (RX3, yX3_readAnd, cX3_readAnd, 4, some .boolean, 586, tX3_readAnd)
def mX3_readNot : MT := (RX3, yX3_readNot, cX3_readNot, 3, some .boolean, 590, tX3_readNot)
def mX3_readComparison : MT := (RX3, yX3_readComparison, cX3_readComparison, 4, some .boolean, 594, tX3_readComparison)
def mX3_readSum : MT := (RX3, yX3_readSum, cX3_readSum, 5, some .boolean, 598, tX3_readSum)
def mX3_readTerm : MT := (RX3, yX3_readTerm, cX3_readTerm, 4, some .boolean, 602, tX3_readTerm)
def mX3_readOne : MT := (RX3, yX3_readOne, cX3_readOne, 3, some .boolean, 606, tX3_readOne)
def mX3_passToken : MT := (RX3, yX3_passToken, cX3_passToken, 1, none, 487, tX3_passToken)
def mX3_isBlank : MT := (RX3, yX3_isBlank, cX3_isBlank, 1, some .boolean, 490, tX3_isBlank)
def mX3_isLetter : MT := (RX3, yX3_isLetter, cX3_isLetter, 1, some .boolean, 493, tX3_isLetter)
def mX3_isDigit : MT := (RX3, yX3_isDigit, cX3_isDigit, 1, some .boolean, 567, tX3_isDigit)
def mX3_isSign : MT := (RX3, yX3_isSign, cX3_isSign, 1, some .boolean, 574, tX3_isSign)
def mX3_passNumber : MT := (RX3, yX3_passNumber, cX3_passNumber, 1, some .int, 571, tX3_passNumber)
def mX3_passWord : MT := (RX3, yX3_passWord, cX3_passWord, 2, some .int, 497, tX3_passWord)
def mX3_isSpelt : MT := (RX3, yX3_isSpelt, cX3_isSpelt, 4, some .boolean, 516, tX3_isSpelt)
def mX3_spelling : MT := (RX3, yX3_spelling, cX3_spelling, 1, (some (.object "java/lang/String")), 500, tX3_spelling)
def mX4_init : MT := (RX4, yX4_init, cX4_init, 1, none, 286, tX4_init)
def mX4_isSort : MT := (RX4, yX4_isSort, cX4_isSort, 1, some .boolean, 837, tX4_isSort)
def mX4_hasPlace : MT := (RX4, yX4_hasPlace, cX4_hasPlace, 2, some .boolean, 730, tX4_hasPlace)
def mX4_sortOf : MT := (RX4, yX4_sortOf, cX4_sortOf, 2, some .int, 742, tX4_sortOf)
def mX4_sizeOf : MT := (RX4, yX4_sizeOf, cX4_sizeOf, 2, some .int, 747, tX4_sizeOf)
def mX4_isMissing : MT := (RX4, yX4_isMissing, cX4_isMissing, 2, some .boolean, 738, tX4_isMissing)
def mX4_hasItem : MT := (RX4, yX4_hasItem, cX4_hasItem, 3, some .boolean, 755, tX4_hasItem)
def mX4_hasItems : MT := (RX4, yX4_hasItems, cX4_hasItems, 4, some .boolean, 851, tX4_hasItems)
def mX4_lay : MT := (RX4, yX4_lay, cX4_lay, 5, none, 796, tX4_lay)
def mX4_store : MT := (RX4, yX4_store, cX4_store, 5, none, 800, tX4_store)
def mX4_valueAt : MT := (RX4, yX4_valueAt, cX4_valueAt, 3, some .int, 751, tX4_valueAt)
def mX4_move : MT := (RX4, yX4_move, cX4_move, 6, none, 855, tX4_move)
def mX5_init : MT := (RX5, yX5_init, cX5_init, 1, none, 138, tX5_init)
def mX5_cellOfName : MT := (RX5, yX5_cellOfName, cX5_cellOfName, 1, some .int, 146, tX5_cellOfName)
def mX5_isFull : MT := (RX5, yX5_isFull, cX5_isFull, 1, some .boolean, 478, tX5_isFull)
def mX5_hasText : MT := (RX5, yX5_hasText, cX5_hasText, 2, some .boolean, 377, tX5_hasText)
def mX5_begin : MT := (RX5, yX5_begin, cX5_begin, 1, none, 143, tX5_begin)
def mX5_put : MT := (RX5, yX5_put, cX5_put, 2, none, 150, tX5_put)
def mX5_endPart : MT := (RX5, yX5_endPart, cX5_endPart, 2, none, 154, tX5_endPart)
def mX5_keep : MT := (RX5, yX5_keep, cX5_keep, 1, some .int, 158, tX5_keep)
def mX5_value : MT := (RX5, yX5_value, cX5_value, 9, some .int, 373, tX5_value)
def mX5_valueOfName : MT := (RX5, yX5_valueOfName, cX5_valueOfName, 3, some .int, 380, tX5_valueOfName)
def mX5_ofBoth : MT := (RX5, yX5_ofBoth, cX5_ofBoth, 3, some .int, 383, tX5_ofBoth)
def mX6_init : MT := (RX6, yX6_init, cX6_init, 1, none, 130, tX6_init)
def mX6_set : MT := (RX6, yX6_set, cX6_set, 5, some .int, 326, tX6_set)
def mX6_highest : MT := (RX6, yX6_highest, cX6_highest, 1, some .int, 434, tX6_highest)
def mX6_citizen : MT := (RX6, yX6_citizen, cX6_citizen, 3, some .int, 446, tX6_citizen)
def mX6_business : MT := (RX6, yX6_business, cX6_business, 2, some .int, 457, tX6_business)
def mX6_told : MT := (RX6, yX6_told, cX6_told, 3, some .int, 330, tX6_told)
def mX6_toldOfCitizen : MT := (RX6, yX6_toldOfCitizen, cX6_toldOfCitizen, 3, some .int, 338, tX6_toldOfCitizen)
def mX6_toldOfItem : MT := (RX6, yX6_toldOfItem, cX6_toldOfItem, 3, some .int, 418, tX6_toldOfItem)
def mX6_feed : MT := (RX6, yX6_feed, cX6_feed, 2, some .int, 466, tX6_feed)
def mX6_text : MT := (RX6, yX6_text, cX6_text, 1, some .int, 474, tX6_text)
def mX6_force : MT := (RX6, yX6_force, cX6_force, 3, some .int, 615, tX6_force)
def mX6_list : MT := (RX6, yX6_list, cX6_list, 3, some .int, 620, tX6_list)
def mX6_by : MT := (RX6, yX6_by, cX6_by, 2, some .int, 642, tX6_by)
def mX6_sit : MT := (RX6, yX6_sit, cX6_sit, 2, some .int, 651, tX6_sit)
def mX6_run : MT := (RX6, yX6_run, cX6_run, 6, some .int, 670, tX6_run)
def mX6_shortest : MT := (RX6, yX6_shortest, cX6_shortest, 7, some .int, 681, tX6_shortest)
def mX6_fewest : MT := (RX6, yX6_fewest, cX6_fewest, 7, some .int, 685, tX6_fewest)
def mX6_soonest : MT := (RX6, yX6_soonest, cX6_soonest, 7, some .int, 689, tX6_soonest)
def mX6_bribe : MT := (RX6, yX6_bribe, cX6_bribe, 4, some .int, 698, tX6_bribe)
def mX6_order : MT := (RX6, yX6_order, cX6_order, 2, some .int, 702, tX6_order)
def mX6_turned : MT := (RX6, yX6_turned, cX6_turned, 7, some .int, 722, tX6_turned)
def mX6_tells : MT := (RX6, yX6_tells, cX6_tells, 4, some .int, 726, tX6_tells)
def mX6_canBeAsked : MT := (RX6, yX6_canBeAsked, cX6_canBeAsked, 4, some .boolean, 734, tX6_canBeAsked)
def mX6_ways : MT := (RX6, yX6_ways, cX6_ways, 9, some .int, 760, tX6_ways)
def mX6_textsBy : MT := (RX6, yX6_textsBy, cX6_textsBy, 4, some .int, 764, tX6_textsBy)
def mX6_ofOneBy : MT := (RX6, yX6_ofOneBy, cX6_ofOneBy, 4, some .int, 772, tX6_ofOneBy)
def mX6_kindsBy : MT := (RX6, yX6_kindsBy, cX6_kindsBy, 5, some .int, 776, tX6_kindsBy)
def mX6_numbersBy : MT := (RX6, yX6_numbersBy, cX6_numbersBy, 5, some .int, 784, tX6_numbersBy)
def mX6_bribesBy : MT := (RX6, yX6_bribesBy, cX6_bribesBy, 7, some .int, 788, tX6_bribesBy)
def mX6_film : MT := (RX6, yX6_film, cX6_film, 3, some .int, 792, tX6_film)
def mX6_drawn : MT := (RX6, yX6_drawn, cX6_drawn, 2, some .int, 804, tX6_drawn)
def mX6_chance : MT := (RX6, yX6_chance, cX6_chance, 6, some .long, 814, tX6_chance)
def mX6_inLowestTerms : MT := (RX6, yX6_inLowestTerms, cX6_inLowestTerms, 4, some .int, 818, tX6_inLowestTerms)
def mX6_image : MT := (RX6, yX6_image, cX6_image, 1, some .int, 822, tX6_image)
def mX6_back : MT := (RX6, yX6_back, cX6_back, 1, some .int, 826, tX6_back)
def mX6_count : MT := (RX6, yX6_count, cX6_count, 2, some .int, 830, tX6_count)
def mX6_sheet : MT := (RX6, yX6_sheet, cX6_sheet, 4, some .int, 834, tX6_sheet)
def mX6_cell : MT := (RX6, yX6_cell, cX6_cell, 4, some .int, 841, tX6_cell)
def mX6_copy : MT := (RX6, yX6_copy, cX6_copy, 6, some .int, 846, tX6_copy)
def mX6_citizens : MT := (RX6, yX6_citizens, cX6_citizens, 8, some .int, 861, tX6_citizens)
def mX6_taken : MT := (RX6, yX6_taken, cX6_taken, 3, some .int, 866, tX6_taken)
def mX7_in : MT := (RX7, yX7_in, cX7_in, 6, some .boolean, 1057, tX7_in)
def mX7_within : MT := (RX7, yX7_within, cX7_within, 3, some .int, 1164, tX7_within)
def mX7_init : MT := (RX7, yX7_init, cX7_init, 1, none, 877, tX7_init)
def mX7_spell : MT := (RX7, yX7_spell, cX7_spell, 10, none, 882, tX7_spell)
def mX7_isOne : MT := (RX7, yX7_isOne, cX7_isOne, 2, some .boolean, 1061, tX7_isOne)
def mX7_isItem : MT := (RX7, yX7_isItem, cX7_isItem, 2, some .boolean, 1073, tX7_isItem)
def mX7_mostOf : MT := (RX7, yX7_mostOf, cX7_mostOf, 1, some .int, 1064, tX7_mostOf)
def mX7_set : MT := (RX7, yX7_set, cX7_set, 5, some .int, 1053, tX7_set)
def mX7_lays : MT := (RX7, yX7_lays, cX7_lays, 4, none, 1179, tX7_lays)
def mX7_citizen : MT := (RX7, yX7_citizen, cX7_citizen, 3, some .int, 1183, tX7_citizen)
def mX7_business : MT := (RX7, yX7_business, cX7_business, 2, some .int, 1189, tX7_business)
def mX7_told : MT := (RX7, yX7_told, cX7_told, 5, some .int, 1068, tX7_told)
def mX7_bitsOf : MT := (RX7, yX7_bitsOf, cX7_bitsOf, 3, some .int, 1167, tX7_bitsOf)
def mX7_feed : MT := (RX7, yX7_feed, cX7_feed, 2, some .int, 1195, tX7_feed)
def mX7_byteAt : MT := (RX7, yX7_byteAt, cX7_byteAt, 2, some .int, 1103, tX7_byteAt)
def mX7_next : MT := (RX7, yX7_next, cX7_next, 3, none, 1099, tX7_next)
def mX7_fail : MT := (RX7, yX7_fail, cX7_fail, 1, none, 1123, tX7_fail)
def mX7_isLetter : MT := (RX7, yX7_isLetter, cX7_isLetter, 3, some .boolean, 1115, tX7_isLetter)
def mX7_isWord : MT := (RX7, yX7_isWord, cX7_isWord, 9, some .boolean, 1111, tX7_isWord)
def mX7_isSign : MT := (RX7, yX7_isSign, cX7_isSign, 2, some .boolean, 1155, tX7_isSign)
def mX7_opens : MT := (RX7, yX7_opens, cX7_opens, 1, some .boolean, 1139, tX7_opens)
def mX7_name : MT := (RX7, yX7_name, cX7_name, 1, some .int, 1159, tX7_name)
def mX7_atom : MT := (RX7, yX7_atom, cX7_atom, 2, some .int, 1151, tX7_atom)
def mX7_term : MT := (RX7, yX7_term, cX7_term, 2, some .int, 1147, tX7_term)
def mX7_added : MT := (RX7, yX7_added, cX7_added, 4, some .int, 1143, tX7_added)
def mX7_not : MT := (RX7, yX7_not, cX7_not, 4, some .int, 1135, tX7_not)
def mX7_both : MT := (RX7, yX7_both, cX7_both, 3, some .int, 1131, tX7_both)
def mX7_either : MT := (RX7, yX7_either, cX7_either, 3, some .int, 1127, tX7_either)
def mX7_part : MT := (RX7, yX7_part, cX7_part, 3, some .int, 1119, tX7_part)
def mX7_read : MT := (RX7, yX7_read, cX7_read, 6, some .int, 1095, tX7_read)
def mX7_text : MT := (RX7, yX7_text, cX7_text, 2, some .int, 1200, tX7_text)
def mX7_force : MT := (RX7, yX7_force, cX7_force, 3, some .int, 1204, tX7_force)
def mX7_asks : MT := (RX7, yX7_asks, cX7_asks, 7, some .int, 1087, tX7_asks)
def mX7_isRead : MT := (RX7, yX7_isRead, cX7_isRead, 6, some .boolean, 1083, tX7_isRead)
def mX7_silenceOf : MT := (RX7, yX7_silenceOf, cX7_silenceOf, 5, some .int, 1171, tX7_silenceOf)
def mX7_timeOf : MT := (RX7, yX7_timeOf, cX7_timeOf, 5, some .int, 1175, tX7_timeOf)
def mX7_listNow : MT := (RX7, yX7_listNow, cX7_listNow, 4, some .int, 1079, tX7_listNow)
def mX7_goneBy : MT := (RX7, yX7_goneBy, cX7_goneBy, 6, some .int, 1221, tX7_goneBy)
def mX7_gone : MT := (RX7, yX7_gone, cX7_gone, 1, some .int, 1217, tX7_gone)
def mX7_leftNow : MT := (RX7, yX7_leftNow, cX7_leftNow, 1, some .int, 1213, tX7_leftNow)
def mX7_list : MT := (RX7, yX7_list, cX7_list, 3, some .int, 1208, tX7_list)
def mX7_by : MT := (RX7, yX7_by, cX7_by, 2, some .int, 1225, tX7_by)
def mX7_sits : MT := (RX7, yX7_sits, cX7_sits, 6, some .int, 1233, tX7_sits)
def mX7_sit : MT := (RX7, yX7_sit, cX7_sit, 1, some .int, 1229, tX7_sit)
def mX7_laysAside : MT := (RX7, yX7_laysAside, cX7_laysAside, 2, none, 1243, tX7_laysAside)
def mX7_laysBack : MT := (RX7, yX7_laysBack, cX7_laysBack, 2, none, 1251, tX7_laysBack)
def mX7_doneMany : MT := (RX7, yX7_doneMany, cX7_doneMany, 3, some .int, 1247, tX7_doneMany)
def mX7_run : MT := (RX7, yX7_run, cX7_run, 4, some .int, 1237, tX7_run)
def mX7_shortest : MT := (RX7, yX7_shortest, cX7_shortest, 6, some .int, 1255, tX7_shortest)
def mX7_fewest : MT := (RX7, yX7_fewest, cX7_fewest, 4, some .int, 1259, tX7_fewest)
def mX7_doneAt : MT := (RX7, yX7_doneAt, cX7_doneAt, 2, some .int, 1267, tX7_doneAt)
def mX7_soonest : MT := (RX7, yX7_soonest, cX7_soonest, 8, some .int, 1263, tX7_soonest)
def mX7_bribe : MT := (RX7, yX7_bribe, cX7_bribe, 5, some .int, 1272, tX7_bribe)
def mX7_sittingFor : MT := (RX7, yX7_sittingFor, cX7_sittingFor, 3, some .int, 1284, tX7_sittingFor)
def mX7_seeks : MT := (RX7, yX7_seeks, cX7_seeks, 7, none, 1280, tX7_seeks)
def mX7_order : MT := (RX7, yX7_order, cX7_order, 5, some .int, 1276, tX7_order)
def mX7_turned : MT := (RX7, yX7_turned, cX7_turned, 7, some .int, 1288, tX7_turned)
def mX7_looks : MT := (RX7, yX7_looks, cX7_looks, 3, none, 1300, tX7_looks)
def mX7_tells : MT := (RX7, yX7_tells, cX7_tells, 13, some .int, 1292, tX7_tells)
def mX7_film : MT := (RX7, yX7_film, cX7_film, 3, some .int, 1304, tX7_film)
def mX7_draws : MT := (RX7, yX7_draws, cX7_draws, 4, none, 1317, tX7_draws)
def mX7_bribesAgain : MT := (RX7, yX7_bribesAgain, cX7_bribesAgain, 2, none, 1322, tX7_bribesAgain)
def mX7_drawn : MT := (RX7, yX7_drawn, cX7_drawn, 3, some .int, 1313, tX7_drawn)
def mX7_chance : MT := (RX7, yX7_chance, cX7_chance, 12, some .long, 1326, tX7_chance)
def mX7_image : MT := (RX7, yX7_image, cX7_image, 2, some .int, 1332, tX7_image)
def mX7_back : MT := (RX7, yX7_back, cX7_back, 2, some .int, 1336, tX7_back)
def mX7_count : MT := (RX7, yX7_count, cX7_count, 2, some .int, 1340, tX7_count)
def mX7_isSheet : MT := (RX7, yX7_isSheet, cX7_isSheet, 1, some .boolean, 1296, tX7_isSheet)
def mX7_sheet : MT := (RX7, yX7_sheet, cX7_sheet, 5, some .int, 1308, tX7_sheet)
def mX7_cell : MT := (RX7, yX7_cell, cX7_cell, 4, some .int, 1345, tX7_cell)
def mX7_copy : MT := (RX7, yX7_copy, cX7_copy, 9, some .int, 1349, tX7_copy)
def mX7_citizens : MT := (RX7, yX7_citizens, cX7_citizens, 8, some .int, 1353, tX7_citizens)
def mX7_over : MT := (RX7, yX7_over, cX7_over, 1, some .int, 1362, tX7_over)
def mX7_taken : MT := (RX7, yX7_taken, cX7_taken, 4, some .int, 1359, tX7_taken)
def mJ6_bitCount_0f7a4 : MT := (RJ6, yJ6_bitCount_0f7a4, cJ6_bitCount_0f7a4, 1, some .int, 366, tJ6_bitCount_0f7a4)
def mJ9_max_7cf53 : MT := (RJ9, yJ9_max_7cf53, cJ9_max_7cf53, 2, some .int, 389, tJ9_max_7cf53)
def mJ9_min_7cf53 : MT := (RJ9, yJ9_min_7cf53, cJ9_min_7cf53, 2, some .int, 386, tJ9_min_7cf53)
def mJ0_length_8abf5 : MT := (RJ0, yJ0_length_8abf5, cJ0_length_8abf5, 1, some .int, 520, tJ0_length_8abf5)
def mJ0_charAt_5068e : MT := (RJ0, yJ0_charAt_5068e, cJ0_charAt_5068e, 2, some .char, 530, tJ0_charAt_5068e)
def mJ0_coder_7d493 : MT := (RJ0, yJ0_coder_7d493, cJ0_coder_7d493, 1, some .byte, 524, tJ0_coder_7d493)
def mJ0_isLatin1_aae02 : MT := (RJ0, yJ0_isLatin1_aae02, cJ0_isLatin1_aae02, 1, some .boolean, 534, tJ0_isLatin1_aae02)
def mJ0_checkIndex_df160 : MT := (RJ0, yJ0_checkIndex_df160, cJ0_checkIndex_df160, 2, none, 540, tJ0_checkIndex_df160)
def mJ1_charAt_3b067 : MT := (RJ1, yJ1_charAt_3b067, cJ1_charAt_3b067, 2, some .char, 537, tJ1_charAt_3b067)
def mJ2_getChar_3b067 : MT := (RJ2, yJ2_getChar_3b067, cJ2_getChar_3b067, 2, some .char, 558, tJ2_getChar_3b067)
def mJ2_length_9d52b : MT := (RJ2, yJ2_length_9d52b, cJ2_length_9d52b, 1, some .int, 554, tJ2_length_9d52b)
def mJ2_charAt_3b067 : MT := (RJ2, yJ2_charAt_3b067, cJ2_charAt_3b067, 2, some .char, 548, tJ2_charAt_3b067)
def mJ2_checkIndex_2214a : MT := (RJ2, yJ2_checkIndex_2214a, cJ2_checkIndex_2214a, 2, none, 551, tJ2_checkIndex_2214a)
def mJ3_checkIndex_8e157 : MT := (RJ3, yJ3_checkIndex_8e157, cJ3_checkIndex_8e157, 3, some .int, 545, tJ3_checkIndex_8e157)
def RL : String := "MinuteForTheUnreadLaw"
def mL_law : MT := (RL, x, code, 4, some .boolean, 0, tL_law)
def sTx : List String := ["number", "bribe", "sitting", "read", "rank", "asked", "reads", "stills", "names", "or", "and", "not"]
def sIx : List Nat := [118, 119, 121, 123, 125, 127, 129, 131, 133, 135, 137, 139]
def sLen : List Nat := [6, 5, 7, 4, 4, 5, 5, 6, 5, 2, 3, 3]
def sByt : List (List Int32) := [[110, 117, 109, 98, 101, 114], [98, 114, 105, 98, 101], [115, 105, 116, 116, 105, 110, 103], [114, 101, 97, 100], [114, 97, 110, 107], [97, 115, 107, 101, 100], [114, 101, 97, 100, 115], [115, 116, 105, 108, 108, 115], [110, 97, 109, 101, 115], [111, 114], [97, 110, 100], [110, 111, 116]]
def nestIx : List Nat := [136, 160, 179, 186, 208, 215, 216, 218, 220, 222, 227, 260, 268, 270, 284, 331, 339, 344, 348, 352, 370, 393, 396, 397, 401, 404, 408, 411, 419, 424, 428, 435, 439, 447, 450, 458, 467, 475, 479, 483, 607, 608, 609, 610, 616, 622, 628, 643, 644, 652, 657, 671, 690, 703, 707, 708, 709, 727, 735, 744, 748, 765, 777, 793, 797, 805, 835, 842, 847, 848, 852, 867]
end
section
/-! cells of the world, in the order in which they are made: an object of a class (by its place in vwCl), or an array -/
abbrev Kd : Type := Nat ⊕ (Nat × FieldType)
abbrev vwCl : List vw_C := [(RX0, TX0, 13), (RX2, TX2, 5), (RX3, TX3, 7), (RX4, TX4, 3), (RX5, TX5, 5), (RX6, TX6, 8), (RX7, TX7, 55)]
def KDs : List Kd := [.inl 5, .inl 4, .inr (960, .int), .inr (18, .int), .inr (160, .int), .inl 2, .inr (160, .int),
  .inl 0, .inr (6, .int), .inr (8, .int), .inr (8, .int), .inr (8, .int), .inr (6, .int), .inr (6, .int), .inr (6, .int),
  .inl 0, .inr (6, .int), .inr (8, .int), .inr (8, .int), .inr (8, .int), .inr (6, .int), .inr (6, .int), .inr (6, .int),
  .inl 0, .inr (6, .int), .inr (8, .int), .inr (8, .int), .inr (8, .int), .inr (6, .int), .inr (6, .int), .inr (6, .int),
  .inl 1, .inr (6, .int), .inr (40, .int), .inl 3, .inr (4, .int), .inr (4, .int), .inr (160, .int),
  .inl 6, .inr (960, .int), .inr (6, .int), .inr (160, .int), .inr (8, .int), .inr (8, .int), .inr (8, .int), .inr (18, .int),
  .inr (1024, .long), .inr (1024, .int), .inr (18, .int), .inr (41, .int), .inr (8, .int), .inr (8, .int), .inr (8, .int), .inr (18, .int),
  .inr (4, .boolean), .inr (4, .int), .inr (4, .int), .inr (160, .int)]
def KD (i : Nat) : Kd := KDs.getD i (.inl 99)
def nCl (ci : Nat) : vw_C := vwCl.getD ci ("", TX7, 0)
def tyF (ci k : Nat) : FieldType := match ci with
  | 0 => tyX0 k
  | 1 => tyX2 k
  | 2 => tyX3 k
  | 3 => tyX4 k
  | 4 => tyX5 k
  | 5 => tyX6 k
  | _ => tyX7 k
def slotsK (d : Kd) : Nat := match d with
  | .inl ci => (nCl ci).2.2
  | .inr q => q.1
def sl (n : Nat) : Nat := ((List.range n).map fun i => slotsK (KD i)).sum
def tblG : List Cond := lw_tbl.filter goodWord
def hostN : String := "MinuteForTheUnread"
def isNestW : Cond → Bool
  | .fieldLinkNest .. => true
  | .methodLinkNest .. => true
  | _ => false
def tblN : List Cond := lw_tbl.filter isNestW
/-- a word by its place -/
def wAt (i : Nat) (w : Cond) : Bool := decide (lw_tbl[i]? = some w)
def gAt (i : Nat) (w : Cond) : Bool := wAt i w && goodWord w
theorem gAt_mem {i : Nat} {w : Cond} (h : gAt i w = true) : w ∈ tblG := by
  simp only [gAt, wAt, Bool.and_eq_true, decide_eq_true_eq] at h
  exact List.mem_filter.mpr ⟨List.mem_of_getElem? h.1, h.2⟩
def nAt (i : Nat) (w : Cond) : Bool := wAt i w && isNestW w
theorem nAt_mem {i : Nat} {w : Cond} (h : nAt i w = true) : w ∈ tblN := by
  simp only [nAt, wAt, Bool.and_eq_true, decide_eq_true_eq] at h
  exact List.mem_filter.mpr ⟨List.mem_of_getElem? h.1, h.2⟩
/-- a field's words: its own class's or a nest mate's -/
def okField (own : String) (idx t ci k : Nat) : Bool :=
  decide (ci < 7) && (decide (k < (nCl ci).2.2) && (decide (((nCl ci).2.1 k).1 = (nCl ci).1) &&
    (gAt t (.fieldLink own idx (nCl ci).1 ((nCl ci).2.1 k).2.1 ((nCl ci).2.1 k).2.2.1) || nAt t (.fieldLinkNest own idx (nCl ci).1 ((nCl ci).2.1 k).2.1 ((nCl ci).2.1 k).2.2.1 hostN))))
def ilen : Instr → Nat
  | .bipush _ => 2
  | .iload _ => 2
  | .lload _ => 2
  | .aload _ => 2
  | .istore _ => 2
  | .lstore _ => 2
  | .astore _ => 2
  | .ldc _ => 2
  | .newarray _ => 2
  | .sipush _ => 3
  | .ldc_w _ => 3
  | .ldc2_w _ => 3
  | .iinc _ _ => 3
  | .goto _ => 3
  | .ifCond _ _ => 3
  | .if_icmp _ _ => 3
  | .getfield _ => 3
  | .putfield _ => 3
  | .getstatic _ => 3
  | .invokevirtual _ => 3
  | .invokestatic _ => 3
  | .invokespecial _ => 3
  | .new _ => 3
  | _ => 1
def isSw : Instr → Bool
  | .tableswitch .. => true
  | .lookupswitch .. => true
  | _ => false
def okI (own : String) (nL : Nat) (e : E8) : Bool := match e with
  | (pc, ins, _, t, c32, c64, ci, k) => match ins with
    | .iconst n => decide (Int32.ofInt n = c32)
    | .bipush n => decide ((Int8.ofInt n).toInt32 = c32)
    | .sipush n => decide ((Int16.ofInt n).toInt32 = c32)
    | .lconst n => decide (Int64.ofNat (n : Nat) = c64)
    | .iinc i n => decide (Int32.ofInt n = c32) && decide (i < nL)
    | .iload_n i => decide ((i : Nat) = k)
    | .lload_n i => decide ((i : Nat) = k)
    | .aload_n i => decide ((i : Nat) = k)
    | .istore_n i => decide ((i : Nat) = k) && decide (k < nL)
    | .astore_n i => decide ((i : Nat) = k) && decide (k < nL)
    | .lstore_n i => decide ((i : Nat) = k) && decide (k + 1 < nL)
    | .iload i => decide (i = k)
    | .lload i => decide (i = k)
    | .aload i => decide (i = k)
    | .istore i => decide (i = k) && decide (k < nL)
    | .astore i => decide (i = k) && decide (k < nL)
    | .lstore i => decide (i = k) && decide (k + 1 < nL)
    | .goto off => decide ((pc : Int) + off = (t : Int))
    | .ifCond _ off => decide ((pc : Int) + off = (t : Int))
    | .if_icmp _ off => decide ((pc : Int) + off = (t : Int))
    | .getfield idx => ci == 98 || okField own idx t ci k
    | .putfield idx => ci == 98 || okField own idx t ci k
    | .ldc idx => if ci = 99 then (1000 ≤ k && (k < 1012 && (own == RX3 && sIx.getD (k - 1000) 0 == idx))) else gAt t (.constant own idx c32)
    | .ldc_w idx => gAt t (.constant own idx c32)
    | .ldc2_w idx => gAt t (.constantLong own idx c64)
    | _ => true
def okE (own : String) (cc : ByteArray) (nL : Nat) (e : E8) : Bool := decide (decode cc e.1 = .ok (e.2.1, e.2.2.1 - e.1)) && (decide (e.1 < e.2.2.1) && ((isSw e.2.1 || decide (e.2.2.1 = e.1 + ilen e.2.1)) && okI own nL e))
def okM (q : MT) : Bool := match q with
  | (own, y, cc, nL, ret, wi, tbl) => plainName y.cls && (decide (y.cls = own) && (decide (nL ≤ 21) && (gAt wi (.code y cc nL ret) && tbl.all (okE own cc nL))))
def lnk (own : String) (idx : Nat) (y : MethodName) : Prop := Cond.methodLink own idx y ∈ tblG ∨ Cond.methodLinkNest own idx y hostN ∈ tblN
def lnkB (t : Nat) (own : String) (idx : Nat) (y : MethodName) : Bool := gAt t (.methodLink own idx y) || nAt t (.methodLinkNest own idx y hostN)
theorem lnk_of {t : Nat} {own : String} {idx : Nat} {y : MethodName} (h : lnkB t own idx y = true) : lnk own idx y := by
  simp only [lnkB, Bool.or_eq_true] at h
  exact h.imp gAt_mem nAt_mem
/-- a callee: its class is initialised, so many parameters -/
def okY (mt : MT) (na wini : Nat) : Bool := gAt wini (.initialized mt.2.1.cls) && (decide (mt.2.1.cls ≠ "java/lang/invoke/MethodHandle" ∧ mt.2.1.cls ≠ "java/lang/invoke/VarHandle") && decide ((parseMethodDescriptor mt.2.1.desc).map (fun d => d.parameters.length) = some na))
def okYv (mt : MT) (na wini winst wsel : Nat) : Bool := okM mt && (okY mt na wini && (gAt winst (.instanceMethod mt.2.1) && gAt wsel (.selects mt.2.1.cls mt.2.1 mt.2.1)))
def okYs (mt : MT) (na wini wstat : Nat) : Bool := okM mt && (okY mt na wini && gAt wstat (.static mt.2.1))
def okYi (mt : MT) (na wini winst : Nat) : Bool := okM mt && (okY mt na wini && (gAt winst (.instanceMethod mt.2.1) && (decide (mt.2.1.name = "<init>") && decide (mt.2.2.2.2.1 = none))))
end
section
set_option maxRecDepth 100000 in
theorem okX0_init : okM mX0_init = true := by decide +kernel
set_option maxRecDepth 100000 in
theorem okX0_become : okM mX0_become = true := by decide +kernel
set_option maxRecDepth 100000 in
theorem okX0_hasCitizen : okM mX0_hasCitizen = true := by decide +kernel
set_option maxRecDepth 100000 in
theorem okX0_hasItem : okM mX0_hasItem = true := by decide +kernel
set_option maxRecDepth 100000 in
theorem okX0_everyone : okM mX0_everyone = true := by decide +kernel
set_option maxRecDepth 100000 in
theorem okX0_addCitizen : okM mX0_addCitizen = true := by decide +kernel
set_option maxRecDepth 100000 in
theorem okX0_addItem : okM mX0_addItem = true := by decide +kernel
set_option maxRecDepth 100000 in
theorem okX0_kindOf : okM mX0_kindOf = true := by decide +kernel
set_option maxRecDepth 100000 in
theorem okX0_numberOf : okM mX0_numberOf = true := by decide +kernel
set_option maxRecDepth 100000 in
theorem okX0_bribeOf : okM mX0_bribeOf = true := by decide +kernel
set_option maxRecDepth 100000 in
theorem okX0_putKind : okM mX0_putKind = true := by decide +kernel
set_option maxRecDepth 100000 in
theorem okX0_putNumber : okM mX0_putNumber = true := by decide +kernel
set_option maxRecDepth 100000 in
theorem okX0_putBribe : okM mX0_putBribe = true := by decide +kernel
set_option maxRecDepth 100000 in
theorem okX0_takesOf : okM mX0_takesOf = true := by decide +kernel
set_option maxRecDepth 100000 in
theorem okX0_soFarOf : okM mX0_soFarOf = true := by decide +kernel
set_option maxRecDepth 100000 in
theorem okX0_doneAt : okM mX0_doneAt = true := by decide +kernel
set_option maxRecDepth 100000 in
theorem okX0_itemsDone : okM mX0_itemsDone = true := by decide +kernel
set_option maxRecDepth 100000 in
theorem okX0_drawBribes : okM mX0_drawBribes = true := by decide +kernel
set_option maxRecDepth 100000 in
theorem okX0_lookAt : okM mX0_lookAt = true := by decide +kernel
set_option maxRecDepth 100000 in
theorem okX0_isRead : okM mX0_isRead = true := by decide +kernel
set_option maxRecDepth 100000 in
theorem okX0_silenceOf : okM mX0_silenceOf = true := by decide +kernel
set_option maxRecDepth 100000 in
theorem okX0_timeOf : okM mX0_timeOf = true := by decide +kernel
set_option maxRecDepth 100000 in
theorem okX0_listed : okM mX0_listed = true := by decide +kernel
set_option maxRecDepth 100000 in
theorem okX0_spentOn : okM mX0_spentOn = true := by decide +kernel
set_option maxRecDepth 100000 in
theorem okX0_spentBy : okM mX0_spentBy = true := by decide +kernel
set_option maxRecDepth 100000 in
theorem okX0_spentByList : okM mX0_spentByList = true := by decide +kernel
set_option maxRecDepth 100000 in
theorem okX0_minutesLeft : okM mX0_minutesLeft = true := by decide +kernel
set_option maxRecDepth 100000 in
theorem okX0_hold : okM mX0_hold = true := by decide +kernel
set_option maxRecDepth 100000 in
theorem okX0_goOnWith : okM mX0_goOnWith = true := by decide +kernel
set_option maxRecDepth 100000 in
theorem okX0_doneWithin : okM mX0_doneWithin = true := by decide +kernel
set_option maxRecDepth 100000 in
theorem okX1_isOne : okM mX1_isOne = true := by decide +kernel
set_option maxRecDepth 100000 in
theorem okX1_above : okM mX1_above = true := by decide +kernel
set_option maxRecDepth 100000 in
theorem okX1_isUnder : okM mX1_isUnder = true := by decide +kernel
set_option maxRecDepth 100000 in
theorem okX1_isRead : okM mX1_isRead = true := by decide +kernel
set_option maxRecDepth 100000 in
theorem okX1_silence : okM mX1_silence = true := by decide +kernel
set_option maxRecDepth 100000 in
theorem okX1_time : okM mX1_time = true := by decide +kernel
set_option maxRecDepth 100000 in
theorem okX2_init : okM mX2_init = true := by decide +kernel
set_option maxRecDepth 100000 in
theorem okX2_weigh : okM mX2_weigh = true := by decide +kernel
set_option maxRecDepth 100000 in
theorem okX2_tryAll : okM mX2_tryAll = true := by decide +kernel
set_option maxRecDepth 100000 in
theorem okX2_sittingAfter : okM mX2_sittingAfter = true := by decide +kernel
set_option maxRecDepth 100000 in
theorem okX3_init : okM mX3_init = true := by decide +kernel
set_option maxRecDepth 100000 in
theorem okX3_addByte : okM mX3_addByte = true := by decide +kernel
set_option maxRecDepth 100000 in
theorem okX3_readTape : okM mX3_readTape = true := by decide +kernel
set_option maxRecDepth 100000 in
theorem okX3_passed : okM mX3_passed = true := by decide +kernel
set_option maxRecDepth 100000 in
theorem okX3_readOr : okM mX3_readOr = true := by decide +kernel
set_option maxRecDepth 100000 in
theorem okX3_readAnd : okM mX3_readAnd = true := by decide +kernel
set_option maxRecDepth 100000 in
theorem okX3_readNot : okM mX3_readNot = true := by decide +kernel
set_option maxRecDepth 100000 in
theorem okX3_readComparison : okM mX3_readComparison = true := by decide +kernel
set_option maxRecDepth 100000 in
theorem okX3_readSum : okM mX3_readSum = true := by decide +kernel
set_option maxRecDepth 100000 in
theorem okX3_readTerm : okM mX3_readTerm = true := by decide +kernel
set_option maxRecDepth 100000 in
theorem okX3_readOne : okM mX3_readOne = true := by decide +kernel
set_option maxRecDepth 100000 in
theorem okX3_passToken : okM mX3_passToken = true := by decide +kernel
set_option maxRecDepth 100000 in
theorem okX3_isBlank : okM mX3_isBlank = true := by decide +kernel
set_option maxRecDepth 100000 in
theorem okX3_isLetter : okM mX3_isLetter = true := by decide +kernel
set_option maxRecDepth 100000 in
theorem okX3_isDigit : okM mX3_isDigit = true := by decide +kernel
set_option maxRecDepth 100000 in
theorem okX3_isSign : okM mX3_isSign = true := by decide +kernel
set_option maxRecDepth 100000 in
theorem okX3_passNumber : okM mX3_passNumber = true := by decide +kernel
set_option maxRecDepth 100000 in
theorem okX3_passWord : okM mX3_passWord = true := by decide +kernel
set_option maxRecDepth 100000 in
theorem okX3_isSpelt : okM mX3_isSpelt = true := by decide +kernel
set_option maxRecDepth 100000 in
theorem okX3_spelling : okM mX3_spelling = true := by decide +kernel
set_option maxRecDepth 100000 in
theorem okX4_init : okM mX4_init = true := by decide +kernel
set_option maxRecDepth 100000 in
theorem okX4_isSort : okM mX4_isSort = true := by decide +kernel
set_option maxRecDepth 100000 in
theorem okX4_hasPlace : okM mX4_hasPlace = true := by decide +kernel
set_option maxRecDepth 100000 in
theorem okX4_sortOf : okM mX4_sortOf = true := by decide +kernel
set_option maxRecDepth 100000 in
theorem okX4_sizeOf : okM mX4_sizeOf = true := by decide +kernel
set_option maxRecDepth 100000 in
theorem okX4_isMissing : okM mX4_isMissing = true := by decide +kernel
set_option maxRecDepth 100000 in
theorem okX4_hasItem : okM mX4_hasItem = true := by decide +kernel
set_option maxRecDepth 100000 in
theorem okX4_hasItems : okM mX4_hasItems = true := by decide +kernel
set_option maxRecDepth 100000 in
theorem okX4_lay : okM mX4_lay = true := by decide +kernel
set_option maxRecDepth 100000 in
theorem okX4_store : okM mX4_store = true := by decide +kernel
set_option maxRecDepth 100000 in
theorem okX4_valueAt : okM mX4_valueAt = true := by decide +kernel
set_option maxRecDepth 100000 in
theorem okX4_move : okM mX4_move = true := by decide +kernel
set_option maxRecDepth 100000 in
theorem okX5_init : okM mX5_init = true := by decide +kernel
set_option maxRecDepth 100000 in
theorem okX5_cellOfName : okM mX5_cellOfName = true := by decide +kernel
set_option maxRecDepth 100000 in
theorem okX5_isFull : okM mX5_isFull = true := by decide +kernel
set_option maxRecDepth 100000 in
theorem okX5_hasText : okM mX5_hasText = true := by decide +kernel
set_option maxRecDepth 100000 in
theorem okX5_begin : okM mX5_begin = true := by decide +kernel
set_option maxRecDepth 100000 in
theorem okX5_put : okM mX5_put = true := by decide +kernel
set_option maxRecDepth 100000 in
theorem okX5_endPart : okM mX5_endPart = true := by decide +kernel
set_option maxRecDepth 100000 in
theorem okX5_keep : okM mX5_keep = true := by decide +kernel
set_option maxRecDepth 100000 in
theorem okX5_value : okM mX5_value = true := by decide +kernel
set_option maxRecDepth 100000 in
theorem okX5_valueOfName : okM mX5_valueOfName = true := by decide +kernel
set_option maxRecDepth 100000 in
theorem okX5_ofBoth : okM mX5_ofBoth = true := by decide +kernel
set_option maxRecDepth 100000 in
theorem okX6_init : okM mX6_init = true := by decide +kernel
set_option maxRecDepth 100000 in
theorem okX6_set : okM mX6_set = true := by decide +kernel
set_option maxRecDepth 100000 in
theorem okX6_highest : okM mX6_highest = true := by decide +kernel
set_option maxRecDepth 100000 in
theorem okX6_citizen : okM mX6_citizen = true := by decide +kernel
set_option maxRecDepth 100000 in
theorem okX6_business : okM mX6_business = true := by decide +kernel
set_option maxRecDepth 100000 in
theorem okX6_told : okM mX6_told = true := by decide +kernel
set_option maxRecDepth 100000 in
theorem okX6_toldOfCitizen : okM mX6_toldOfCitizen = true := by decide +kernel
set_option maxRecDepth 100000 in
theorem okX6_toldOfItem : okM mX6_toldOfItem = true := by decide +kernel
set_option maxRecDepth 100000 in
theorem okX6_feed : okM mX6_feed = true := by decide +kernel
set_option maxRecDepth 100000 in
theorem okX6_text : okM mX6_text = true := by decide +kernel
set_option maxRecDepth 100000 in
theorem okX6_force : okM mX6_force = true := by decide +kernel
set_option maxRecDepth 100000 in
theorem okX6_list : okM mX6_list = true := by decide +kernel
set_option maxRecDepth 100000 in
theorem okX6_by : okM mX6_by = true := by decide +kernel
set_option maxRecDepth 100000 in
theorem okX6_sit : okM mX6_sit = true := by decide +kernel
set_option maxRecDepth 100000 in
theorem okX6_run : okM mX6_run = true := by decide +kernel
set_option maxRecDepth 100000 in
theorem okX6_shortest : okM mX6_shortest = true := by decide +kernel
set_option maxRecDepth 100000 in
theorem okX6_fewest : okM mX6_fewest = true := by decide +kernel
set_option maxRecDepth 100000 in
theorem okX6_soonest : okM mX6_soonest = true := by decide +kernel
set_option maxRecDepth 100000 in
theorem okX6_bribe : okM mX6_bribe = true := by decide +kernel
set_option maxRecDepth 100000 in
theorem okX6_order : okM mX6_order = true := by decide +kernel
set_option maxRecDepth 100000 in
theorem okX6_turned : okM mX6_turned = true := by decide +kernel
set_option maxRecDepth 100000 in
theorem okX6_tells : okM mX6_tells = true := by decide +kernel
set_option maxRecDepth 100000 in
theorem okX6_canBeAsked : okM mX6_canBeAsked = true := by decide +kernel
set_option maxRecDepth 100000 in
theorem okX6_ways : okM mX6_ways = true := by decide +kernel
set_option maxRecDepth 100000 in
theorem okX6_textsBy : okM mX6_textsBy = true := by decide +kernel
set_option maxRecDepth 100000 in
theorem okX6_ofOneBy : okM mX6_ofOneBy = true := by decide +kernel
set_option maxRecDepth 100000 in
theorem okX6_kindsBy : okM mX6_kindsBy = true := by decide +kernel
set_option maxRecDepth 100000 in
theorem okX6_numbersBy : okM mX6_numbersBy = true := by decide +kernel
set_option maxRecDepth 100000 in
theorem okX6_bribesBy : okM mX6_bribesBy = true := by decide +kernel
set_option maxRecDepth 100000 in
theorem okX6_film : okM mX6_film = true := by decide +kernel
set_option maxRecDepth 100000 in
theorem okX6_drawn : okM mX6_drawn = true := by decide +kernel
set_option maxRecDepth 100000 in
theorem okX6_chance : okM mX6_chance = true := by decide +kernel
set_option maxRecDepth 100000 in
theorem okX6_inLowestTerms : okM mX6_inLowestTerms = true := by decide +kernel
set_option maxRecDepth 100000 in
theorem okX6_image : okM mX6_image = true := by decide +kernel
set_option maxRecDepth 100000 in
theorem okX6_back : okM mX6_back = true := by decide +kernel
set_option maxRecDepth 100000 in
theorem okX6_count : okM mX6_count = true := by decide +kernel
set_option maxRecDepth 100000 in
theorem okX6_sheet : okM mX6_sheet = true := by decide +kernel
set_option maxRecDepth 100000 in
theorem okX6_cell : okM mX6_cell = true := by decide +kernel
set_option maxRecDepth 100000 in
theorem okX6_copy : okM mX6_copy = true := by decide +kernel
set_option maxRecDepth 100000 in
theorem okX6_citizens : okM mX6_citizens = true := by decide +kernel
set_option maxRecDepth 100000 in
theorem okX6_taken : okM mX6_taken = true := by decide +kernel
set_option maxRecDepth 100000 in
theorem okX7_in : okM mX7_in = true := by decide +kernel
set_option maxRecDepth 100000 in
theorem okX7_within : okM mX7_within = true := by decide +kernel
set_option maxRecDepth 100000 in
theorem okX7_init : okM mX7_init = true := by decide +kernel
set_option maxRecDepth 100000 in
theorem okX7_spell : okM mX7_spell = true := by decide +kernel
set_option maxRecDepth 100000 in
theorem okX7_isOne : okM mX7_isOne = true := by decide +kernel
set_option maxRecDepth 100000 in
theorem okX7_isItem : okM mX7_isItem = true := by decide +kernel
set_option maxRecDepth 100000 in
theorem okX7_mostOf : okM mX7_mostOf = true := by decide +kernel
set_option maxRecDepth 100000 in
theorem okX7_set : okM mX7_set = true := by decide +kernel
set_option maxRecDepth 100000 in
theorem okX7_lays : okM mX7_lays = true := by decide +kernel
set_option maxRecDepth 100000 in
theorem okX7_citizen : okM mX7_citizen = true := by decide +kernel
set_option maxRecDepth 100000 in
theorem okX7_business : okM mX7_business = true := by decide +kernel
set_option maxRecDepth 100000 in
theorem okX7_told : okM mX7_told = true := by decide +kernel
set_option maxRecDepth 100000 in
theorem okX7_bitsOf : okM mX7_bitsOf = true := by decide +kernel
set_option maxRecDepth 100000 in
theorem okX7_feed : okM mX7_feed = true := by decide +kernel
set_option maxRecDepth 100000 in
theorem okX7_byteAt : okM mX7_byteAt = true := by decide +kernel
set_option maxRecDepth 100000 in
theorem okX7_next : okM mX7_next = true := by decide +kernel
set_option maxRecDepth 100000 in
theorem okX7_fail : okM mX7_fail = true := by decide +kernel
set_option maxRecDepth 100000 in
theorem okX7_isLetter : okM mX7_isLetter = true := by decide +kernel
set_option maxRecDepth 100000 in
theorem okX7_isWord : okM mX7_isWord = true := by decide +kernel
set_option maxRecDepth 100000 in
theorem okX7_isSign : okM mX7_isSign = true := by decide +kernel
set_option maxRecDepth 100000 in
theorem okX7_opens : okM mX7_opens = true := by decide +kernel
set_option maxRecDepth 100000 in
theorem okX7_name : okM mX7_name = true := by decide +kernel
set_option maxRecDepth 100000 in
theorem okX7_atom : okM mX7_atom = true := by decide +kernel
set_option maxRecDepth 100000 in
theorem okX7_term : okM mX7_term = true := by decide +kernel
set_option maxRecDepth 100000 in
theorem okX7_added : okM mX7_added = true := by decide +kernel
set_option maxRecDepth 100000 in
theorem okX7_not : okM mX7_not = true := by decide +kernel
set_option maxRecDepth 100000 in
theorem okX7_both : okM mX7_both = true := by decide +kernel
set_option maxRecDepth 100000 in
theorem okX7_either : okM mX7_either = true := by decide +kernel
set_option maxRecDepth 100000 in
theorem okX7_part : okM mX7_part = true := by decide +kernel
set_option maxRecDepth 100000 in
theorem okX7_read : okM mX7_read = true := by decide +kernel
set_option maxRecDepth 100000 in
theorem okX7_text : okM mX7_text = true := by decide +kernel
set_option maxRecDepth 100000 in
theorem okX7_force : okM mX7_force = true := by decide +kernel
set_option maxRecDepth 100000 in
theorem okX7_asks : okM mX7_asks = true := by decide +kernel
set_option maxRecDepth 100000 in
theorem okX7_isRead : okM mX7_isRead = true := by decide +kernel
set_option maxRecDepth 100000 in
theorem okX7_silenceOf : okM mX7_silenceOf = true := by decide +kernel
set_option maxRecDepth 100000 in
theorem okX7_timeOf : okM mX7_timeOf = true := by decide +kernel
set_option maxRecDepth 100000 in
theorem okX7_listNow : okM mX7_listNow = true := by decide +kernel
set_option maxRecDepth 100000 in
theorem okX7_goneBy : okM mX7_goneBy = true := by decide +kernel
set_option maxRecDepth 100000 in
theorem okX7_gone : okM mX7_gone = true := by decide +kernel
set_option maxRecDepth 100000 in
theorem okX7_leftNow : okM mX7_leftNow = true := by decide +kernel
set_option maxRecDepth 100000 in
theorem okX7_list : okM mX7_list = true := by decide +kernel
set_option maxRecDepth 100000 in
theorem okX7_by : okM mX7_by = true := by decide +kernel
set_option maxRecDepth 100000 in
theorem okX7_sits : okM mX7_sits = true := by decide +kernel
set_option maxRecDepth 100000 in
theorem okX7_sit : okM mX7_sit = true := by decide +kernel
set_option maxRecDepth 100000 in
theorem okX7_laysAside : okM mX7_laysAside = true := by decide +kernel
set_option maxRecDepth 100000 in
theorem okX7_laysBack : okM mX7_laysBack = true := by decide +kernel
set_option maxRecDepth 100000 in
theorem okX7_doneMany : okM mX7_doneMany = true := by decide +kernel
set_option maxRecDepth 100000 in
theorem okX7_run : okM mX7_run = true := by decide +kernel
set_option maxRecDepth 100000 in
theorem okX7_shortest : okM mX7_shortest = true := by decide +kernel
set_option maxRecDepth 100000 in
theorem okX7_fewest : okM mX7_fewest = true := by decide +kernel
set_option maxRecDepth 100000 in
theorem okX7_doneAt : okM mX7_doneAt = true := by decide +kernel
set_option maxRecDepth 100000 in
theorem okX7_soonest : okM mX7_soonest = true := by decide +kernel
set_option maxRecDepth 100000 in
theorem okX7_bribe : okM mX7_bribe = true := by decide +kernel
set_option maxRecDepth 100000 in
theorem okX7_sittingFor : okM mX7_sittingFor = true := by decide +kernel
set_option maxRecDepth 100000 in
theorem okX7_seeks : okM mX7_seeks = true := by decide +kernel
set_option maxRecDepth 100000 in
theorem okX7_order : okM mX7_order = true := by decide +kernel
set_option maxRecDepth 100000 in
theorem okX7_turned : okM mX7_turned = true := by decide +kernel
set_option maxRecDepth 100000 in
theorem okX7_looks : okM mX7_looks = true := by decide +kernel
set_option maxRecDepth 100000 in
theorem okX7_tells : okM mX7_tells = true := by decide +kernel
set_option maxRecDepth 100000 in
theorem okX7_film : okM mX7_film = true := by decide +kernel
set_option maxRecDepth 100000 in
theorem okX7_draws : okM mX7_draws = true := by decide +kernel
set_option maxRecDepth 100000 in
theorem okX7_bribesAgain : okM mX7_bribesAgain = true := by decide +kernel
set_option maxRecDepth 100000 in
theorem okX7_drawn : okM mX7_drawn = true := by decide +kernel
set_option maxRecDepth 100000 in
theorem okX7_chance : okM mX7_chance = true := by decide +kernel
set_option maxRecDepth 100000 in
theorem okX7_image : okM mX7_image = true := by decide +kernel
set_option maxRecDepth 100000 in
theorem okX7_back : okM mX7_back = true := by decide +kernel
set_option maxRecDepth 100000 in
theorem okX7_count : okM mX7_count = true := by decide +kernel
set_option maxRecDepth 100000 in
theorem okX7_isSheet : okM mX7_isSheet = true := by decide +kernel
set_option maxRecDepth 100000 in
theorem okX7_sheet : okM mX7_sheet = true := by decide +kernel
set_option maxRecDepth 100000 in
theorem okX7_cell : okM mX7_cell = true := by decide +kernel
set_option maxRecDepth 100000 in
theorem okX7_copy : okM mX7_copy = true := by decide +kernel
set_option maxRecDepth 100000 in
theorem okX7_citizens : okM mX7_citizens = true := by decide +kernel
set_option maxRecDepth 100000 in
theorem okX7_over : okM mX7_over = true := by decide +kernel
set_option maxRecDepth 100000 in
theorem okX7_taken : okM mX7_taken = true := by decide +kernel
set_option maxRecDepth 100000 in
theorem okJ6_bitCount_0f7a4 : okM mJ6_bitCount_0f7a4 = true := by decide +kernel
set_option maxRecDepth 100000 in
theorem okJ0_length_8abf5 : okM mJ0_length_8abf5 = true := by decide +kernel
set_option maxRecDepth 100000 in
theorem okJ0_charAt_5068e : okM mJ0_charAt_5068e = true := by decide +kernel
set_option maxRecDepth 100000 in
theorem okJ0_coder_7d493 : okM mJ0_coder_7d493 = true := by decide +kernel
set_option maxRecDepth 100000 in
theorem okJ0_isLatin1_aae02 : okM mJ0_isLatin1_aae02 = true := by decide +kernel
set_option maxRecDepth 100000 in
theorem okJ0_checkIndex_df160 : okM mJ0_checkIndex_df160 = true := by decide +kernel
set_option maxRecDepth 100000 in
theorem okJ1_charAt_3b067 : okM mJ1_charAt_3b067 = true := by decide +kernel
set_option maxRecDepth 100000 in
theorem okJ3_checkIndex_8e157 : okM mJ3_checkIndex_8e157 = true := by decide +kernel
set_option maxRecDepth 100000 in
theorem fX5_begin : okYv mX5_begin 0 112 142 0 = true := by
  unfold okYv
  rw [okX5_begin]
  decide +kernel
set_option maxRecDepth 100000 in
theorem fX4_store : okYv mX4_store 3 116 799 68 = true := by
  unfold okYv
  rw [okX4_store]
  decide +kernel
set_option maxRecDepth 100000 in
theorem fX6_copy : okYv mX6_copy 5 111 844 845 = true := by
  unfold okYv
  rw [okX6_copy]
  decide +kernel
set_option maxRecDepth 100000 in
theorem fX7_part : okYv mX7_part 1 117 1118 83 = true := by
  unfold okYv
  rw [okX7_part]
  decide +kernel
set_option maxRecDepth 100000 in
theorem fX7_sheet : okYv mX7_sheet 3 117 1306 1307 = true := by
  unfold okYv
  rw [okX7_sheet]
  decide +kernel
set_option maxRecDepth 100000 in
theorem fX7_listNow : okYv mX7_listNow 0 117 1078 75 = true := by
  unfold okYv
  rw [okX7_listNow]
  decide +kernel
set_option maxRecDepth 100000 in
theorem fJ6_bitCount_0f7a4 : okYs mJ6_bitCount_0f7a4 1 118 365 = true := by
  unfold okYs
  rw [okJ6_bitCount_0f7a4]
  decide +kernel
set_option maxRecDepth 100000 in
theorem fX2_sittingAfter : okYv mX2_sittingAfter 1 115 717 51 = true := by
  unfold okYv
  rw [okX2_sittingAfter]
  decide +kernel
set_option maxRecDepth 100000 in
theorem fX3_readAnd : okYv mX3_readAnd 1 113 585 34 = true := by
  unfold okYv
  rw [okX3_readAnd]
  decide +kernel
set_option maxRecDepth 100000 in
theorem fX3_readTape : okYv mX3_readTape 0 113 481 27 = true := by
  unfold okYv
  rw [okX3_readTape]
  decide +kernel
set_option maxRecDepth 100000 in
theorem fX7_isRead : okYv mX7_isRead 2 117 1082 76 = true := by
  unfold okYv
  rw [okX7_isRead]
  decide +kernel
set_option maxRecDepth 100000 in
theorem fX7_doneAt : okYv mX7_doneAt 1 117 1266 104 = true := by
  unfold okYv
  rw [okX7_doneAt]
  decide +kernel
set_option maxRecDepth 100000 in
theorem fX6_canBeAsked : okYv mX6_canBeAsked 1 111 733 53 = true := by
  unfold okYv
  rw [okX6_canBeAsked]
  decide +kernel
set_option maxRecDepth 100000 in
theorem fX3_isLetter : okYs mX3_isLetter 1 113 492 = true := by
  unfold okYs
  rw [okX3_isLetter]
  decide +kernel
set_option maxRecDepth 100000 in
theorem fX7_by : okYv mX7_by 1 117 1223 1224 = true := by
  unfold okYv
  rw [okX7_by]
  decide +kernel
set_option maxRecDepth 100000 in
theorem fX0_bribeOf : okYv mX0_bribeOf 1 114 346 7 = true := by
  unfold okYv
  rw [okX0_bribeOf]
  decide +kernel
set_option maxRecDepth 100000 in
theorem fX4_hasPlace : okYv mX4_hasPlace 1 116 729 52 = true := by
  unfold okYv
  rw [okX4_hasPlace]
  decide +kernel
set_option maxRecDepth 100000 in
theorem fX7_order : okYv mX7_order 1 117 1274 1275 = true := by
  unfold okYv
  rw [okX7_order]
  decide +kernel
set_option maxRecDepth 100000 in
theorem fX7_image : okYv mX7_image 0 117 1330 1331 = true := by
  unfold okYv
  rw [okX7_image]
  decide +kernel
set_option maxRecDepth 100000 in
theorem fJ0_checkIndex_df160 : okYs mJ0_checkIndex_df160 2 121 539 = true := by
  unfold okYs
  rw [okJ0_checkIndex_df160]
  decide +kernel
set_option maxRecDepth 100000 in
theorem fX7_lays : okYv mX7_lays 3 117 1178 96 = true := by
  unfold okYv
  rw [okX7_lays]
  decide +kernel
set_option maxRecDepth 100000 in
theorem fX6_sheet : okYv mX6_sheet 3 111 832 833 = true := by
  unfold okYv
  rw [okX6_sheet]
  decide +kernel
set_option maxRecDepth 100000 in
theorem fX6_toldOfItem : okYv mX6_toldOfItem 2 111 417 17 = true := by
  unfold okYv
  rw [okX6_toldOfItem]
  decide +kernel
set_option maxRecDepth 100000 in
theorem fX7_set : okYv mX7_set 3 117 1051 1052 = true := by
  unfold okYv
  rw [okX7_set]
  decide +kernel
set_option maxRecDepth 100000 in
theorem fX7_init : okYi mX7_init 0 117 876 = true := by
  unfold okYi
  rw [okX7_init]
  decide +kernel
set_option maxRecDepth 100000 in
theorem fX3_readOne : okYv mX3_readOne 1 113 605 39 = true := by
  unfold okYv
  rw [okX3_readOne]
  decide +kernel
set_option maxRecDepth 100000 in
theorem fX1_isRead : okYs mX1_isRead 5 120 394 = true := by
  unfold okYs
  rw [okX1_isRead]
  decide +kernel
set_option maxRecDepth 100000 in
theorem fX0_doneWithin : okYv mX0_doneWithin 2 114 692 48 = true := by
  unfold okYv
  rw [okX0_doneWithin]
  decide +kernel
set_option maxRecDepth 100000 in
theorem fX7_bribe : okYv mX7_bribe 1 117 1270 1271 = true := by
  unfold okYv
  rw [okX7_bribe]
  decide +kernel
set_option maxRecDepth 100000 in
theorem fX7_isSign : okYv mX7_isSign 1 117 1154 92 = true := by
  unfold okYv
  rw [okX7_isSign]
  decide +kernel
set_option maxRecDepth 100000 in
theorem fX3_isDigit : okYs mX3_isDigit 1 113 566 = true := by
  unfold okYs
  rw [okX3_isDigit]
  decide +kernel
set_option maxRecDepth 100000 in
theorem fX7_doneMany : okYv mX7_doneMany 0 117 1246 102 = true := by
  unfold okYv
  rw [okX7_doneMany]
  decide +kernel
set_option maxRecDepth 100000 in
theorem fX7_looks : okYv mX7_looks 1 117 1299 107 = true := by
  unfold okYv
  rw [okX7_looks]
  decide +kernel
set_option maxRecDepth 100000 in
theorem fX6_back : okYv mX6_back 0 111 824 825 = true := by
  unfold okYv
  rw [okX6_back]
  decide +kernel
set_option maxRecDepth 100000 in
theorem fX7_fail : okYv mX7_fail 0 117 1122 84 = true := by
  unfold okYv
  rw [okX7_fail]
  decide +kernel
set_option maxRecDepth 100000 in
theorem fX3_readTerm : okYv mX3_readTerm 1 113 601 38 = true := by
  unfold okYv
  rw [okX3_readTerm]
  decide +kernel
set_option maxRecDepth 100000 in
theorem fX6_citizen : okYv mX6_citizen 2 111 444 445 = true := by
  unfold okYv
  rw [okX6_citizen]
  decide +kernel
set_option maxRecDepth 100000 in
theorem fX7_run : okYv mX7_run 2 117 1235 1236 = true := by
  unfold okYv
  rw [okX7_run]
  decide +kernel
set_option maxRecDepth 100000 in
theorem fX0_init : okYi mX0_init 1 114 209 = true := by
  unfold okYi
  rw [okX0_init]
  decide +kernel
set_option maxRecDepth 100000 in
theorem fX7_turned : okYv mX7_turned 1 117 1286 1287 = true := by
  unfold okYv
  rw [okX7_turned]
  decide +kernel
set_option maxRecDepth 100000 in
theorem fX6_textsBy : okYv mX6_textsBy 1 111 763 60 = true := by
  unfold okYv
  rw [okX6_textsBy]
  decide +kernel
set_option maxRecDepth 100000 in
theorem fX7_within : okYs mX7_within 3 117 1163 = true := by
  unfold okYs
  rw [okX7_within]
  decide +kernel
set_option maxRecDepth 100000 in
theorem fX7_copy : okYv mX7_copy 5 117 1347 1348 = true := by
  unfold okYv
  rw [okX7_copy]
  decide +kernel
set_option maxRecDepth 100000 in
theorem fX5_cellOfName : okYs mX5_cellOfName 1 112 145 = true := by
  unfold okYs
  rw [okX5_cellOfName]
  decide +kernel
set_option maxRecDepth 100000 in
theorem fX7_over : okYs mX7_over 1 117 1361 = true := by
  unfold okYs
  rw [okX7_over]
  decide +kernel
set_option maxRecDepth 100000 in
theorem fX0_doneAt : okYv mX0_doneAt 1 114 430 20 = true := by
  unfold okYv
  rw [okX0_doneAt]
  decide +kernel
set_option maxRecDepth 100000 in
theorem fX6_count : okYv mX6_count 1 111 828 829 = true := by
  unfold okYv
  rw [okX6_count]
  decide +kernel
set_option maxRecDepth 100000 in
theorem fX7_citizen : okYv mX7_citizen 2 117 1181 1182 = true := by
  unfold okYv
  rw [okX7_citizen]
  decide +kernel
set_option maxRecDepth 100000 in
theorem fX7_atom : okYv mX7_atom 0 117 1150 91 = true := by
  unfold okYv
  rw [okX7_atom]
  decide +kernel
set_option maxRecDepth 100000 in
theorem fX5_endPart : okYv mX5_endPart 1 112 153 2 = true := by
  unfold okYv
  rw [okX5_endPart]
  decide +kernel
set_option maxRecDepth 100000 in
theorem fX7_force : okYv mX7_force 1 117 1202 1203 = true := by
  unfold okYv
  rw [okX7_force]
  decide +kernel
set_option maxRecDepth 100000 in
theorem fX7_either : okYv mX7_either 0 117 1126 85 = true := by
  unfold okYv
  rw [okX7_either]
  decide +kernel
set_option maxRecDepth 100000 in
theorem fX7_term : okYv mX7_term 0 117 1146 90 = true := by
  unfold okYv
  rw [okX7_term]
  decide +kernel
set_option maxRecDepth 100000 in
theorem fX6_bribesBy : okYv mX6_bribesBy 3 111 787 66 = true := by
  unfold okYv
  rw [okX6_bribesBy]
  decide +kernel
set_option maxRecDepth 100000 in
theorem fX7_back : okYv mX7_back 0 117 1334 1335 = true := by
  unfold okYv
  rw [okX7_back]
  decide +kernel
set_option maxRecDepth 100000 in
theorem fX2_tryAll : okYv mX2_tryAll 5 115 713 50 = true := by
  unfold okYv
  rw [okX2_tryAll]
  decide +kernel
set_option maxRecDepth 100000 in
theorem fX5_ofBoth : okYs mX5_ofBoth 3 112 382 = true := by
  unfold okYs
  rw [okX5_ofBoth]
  decide +kernel
set_option maxRecDepth 100000 in
theorem fJ0_length_8abf5 : okYv mJ0_length_8abf5 0 121 518 519 = true := by
  unfold okYv
  rw [okJ0_length_8abf5]
  decide +kernel
set_option maxRecDepth 100000 in
theorem fX7_shortest : okYv mX7_shortest 1 117 1253 1254 = true := by
  unfold okYv
  rw [okX7_shortest]
  decide +kernel
set_option maxRecDepth 100000 in
theorem fX6_business : okYv mX6_business 1 111 455 456 = true := by
  unfold okYv
  rw [okX6_business]
  decide +kernel
set_option maxRecDepth 100000 in
theorem fX5_hasText : okYv mX5_hasText 1 112 376 13 = true := by
  unfold okYv
  rw [okX5_hasText]
  decide +kernel
set_option maxRecDepth 100000 in
theorem fX6_shortest : okYv mX6_shortest 1 111 679 680 = true := by
  unfold okYv
  rw [okX6_shortest]
  decide +kernel
set_option maxRecDepth 100000 in
theorem fX6_film : okYv mX6_film 1 111 790 791 = true := by
  unfold okYv
  rw [okX6_film]
  decide +kernel
set_option maxRecDepth 100000 in
theorem fX6_ofOneBy : okYv mX6_ofOneBy 3 111 771 62 = true := by
  unfold okYv
  rw [okX6_ofOneBy]
  decide +kernel
set_option maxRecDepth 100000 in
theorem fX0_spentOn : okYv mX0_spentOn 2 114 624 40 = true := by
  unfold okYv
  rw [okX0_spentOn]
  decide +kernel
set_option maxRecDepth 100000 in
theorem fX6_told : okYv mX6_told 2 111 328 329 = true := by
  unfold okYv
  rw [okX6_told]
  decide +kernel
set_option maxRecDepth 100000 in
theorem fX7_isOne : okYv mX7_isOne 1 117 1060 73 = true := by
  unfold okYv
  rw [okX7_isOne]
  decide +kernel
set_option maxRecDepth 100000 in
theorem fX6_image : okYv mX6_image 0 111 820 821 = true := by
  unfold okYv
  rw [okX6_image]
  decide +kernel
set_option maxRecDepth 100000 in
theorem fX6_drawn : okYv mX6_drawn 1 111 802 803 = true := by
  unfold okYv
  rw [okX6_drawn]
  decide +kernel
set_option maxRecDepth 100000 in
theorem fX0_takesOf : okYv mX0_takesOf 1 114 421 18 = true := by
  unfold okYv
  rw [okX0_takesOf]
  decide +kernel
set_option maxRecDepth 100000 in
theorem fX6_soonest : okYv mX6_soonest 2 111 687 688 = true := by
  unfold okYv
  rw [okX6_soonest]
  decide +kernel
set_option maxRecDepth 100000 in
theorem fX7_isSheet : okYs mX7_isSheet 1 117 1295 = true := by
  unfold okYs
  rw [okX7_isSheet]
  decide +kernel
set_option maxRecDepth 100000 in
theorem fX1_isOne : okYs mX1_isOne 1 120 448 = true := by
  unfold okYs
  rw [okX1_isOne]
  decide +kernel
set_option maxRecDepth 100000 in
theorem fX7_sittingFor : okYv mX7_sittingFor 1 117 1283 106 = true := by
  unfold okYv
  rw [okX7_sittingFor]
  decide +kernel
set_option maxRecDepth 100000 in
theorem fX2_weigh : okYv mX2_weigh 1 115 705 49 = true := by
  unfold okYv
  rw [okX2_weigh]
  decide +kernel
set_option maxRecDepth 100000 in
theorem fX7_citizens : okYv mX7_citizens 4 117 1351 1352 = true := by
  unfold okYv
  rw [okX7_citizens]
  decide +kernel
set_option maxRecDepth 100000 in
theorem fX6_cell : okYv mX6_cell 3 111 839 840 = true := by
  unfold okYv
  rw [okX6_cell]
  decide +kernel
set_option maxRecDepth 100000 in
theorem fX0_everyone : okYv mX0_everyone 0 114 634 42 = true := by
  unfold okYv
  rw [okX0_everyone]
  decide +kernel
set_option maxRecDepth 100000 in
theorem fX6_bribe : okYv mX6_bribe 1 111 696 697 = true := by
  unfold okYv
  rw [okX6_bribe]
  decide +kernel
set_option maxRecDepth 100000 in
theorem fX7_next : okYv mX7_next 0 117 1098 79 = true := by
  unfold okYv
  rw [okX7_next]
  decide +kernel
set_option maxRecDepth 100000 in
theorem fX1_silence : okYs mX1_silence 3 120 402 = true := by
  unfold okYs
  rw [okX1_silence]
  decide +kernel
set_option maxRecDepth 100000 in
theorem fX6_highest : okYs mX6_highest 1 111 433 = true := by
  unfold okYs
  rw [okX6_highest]
  decide +kernel
set_option maxRecDepth 100000 in
theorem fX5_valueOfName : okYs mX5_valueOfName 2 112 379 = true := by
  unfold okYs
  rw [okX5_valueOfName]
  decide +kernel
set_option maxRecDepth 100000 in
theorem fX0_hold : okYv mX0_hold 0 114 659 45 = true := by
  unfold okYv
  rw [okX0_hold]
  decide +kernel
set_option maxRecDepth 100000 in
theorem fX6_text : okYv mX6_text 0 111 472 473 = true := by
  unfold okYv
  rw [okX6_text]
  decide +kernel
set_option maxRecDepth 100000 in
theorem fX0_numberOf : okYv mX0_numberOf 1 114 341 6 = true := by
  unfold okYv
  rw [okX0_numberOf]
  decide +kernel
set_option maxRecDepth 100000 in
theorem fX1_time : okYs mX1_time 4 120 409 = true := by
  unfold okYs
  rw [okX1_time]
  decide +kernel
set_option maxRecDepth 100000 in
theorem fX0_addItem : okYv mX0_addItem 1 114 460 24 = true := by
  unfold okYv
  rw [okX0_addItem]
  decide +kernel
set_option maxRecDepth 100000 in
theorem fX0_become : okYv mX0_become 1 114 673 47 = true := by
  unfold okYv
  rw [okX0_become]
  decide +kernel
set_option maxRecDepth 100000 in
theorem fX4_isMissing : okYv mX4_isMissing 1 116 737 54 = true := by
  unfold okYv
  rw [okX4_isMissing]
  decide +kernel
set_option maxRecDepth 100000 in
theorem fX3_readComparison : okYv mX3_readComparison 1 113 593 36 = true := by
  unfold okYv
  rw [okX3_readComparison]
  decide +kernel
set_option maxRecDepth 100000 in
theorem fX7_feed : okYv mX7_feed 1 117 1193 1194 = true := by
  unfold okYv
  rw [okX7_feed]
  decide +kernel
set_option maxRecDepth 100000 in
theorem fX7_fewest : okYv mX7_fewest 1 117 1257 1258 = true := by
  unfold okYv
  rw [okX7_fewest]
  decide +kernel
set_option maxRecDepth 100000 in
theorem fX4_isSort : okYs mX4_isSort 1 116 836 = true := by
  unfold okYs
  rw [okX4_isSort]
  decide +kernel
set_option maxRecDepth 100000 in
theorem fX0_silenceOf : okYv mX0_silenceOf 2 114 399 14 = true := by
  unfold okYv
  rw [okX0_silenceOf]
  decide +kernel
set_option maxRecDepth 100000 in
theorem fX4_sortOf : okYv mX4_sortOf 1 116 741 55 = true := by
  unfold okYv
  rw [okX4_sortOf]
  decide +kernel
set_option maxRecDepth 100000 in
theorem fX7_business : okYv mX7_business 1 117 1187 1188 = true := by
  unfold okYv
  rw [okX7_business]
  decide +kernel
set_option maxRecDepth 100000 in
theorem fX4_hasItem : okYv mX4_hasItem 2 116 754 58 = true := by
  unfold okYv
  rw [okX4_hasItem]
  decide +kernel
set_option maxRecDepth 100000 in
theorem fX0_putNumber : okYv mX0_putNumber 2 114 437 21 = true := by
  unfold okYv
  rw [okX0_putNumber]
  decide +kernel
set_option maxRecDepth 100000 in
theorem fX0_listed : okYv mX0_listed 0 114 354 9 = true := by
  unfold okYv
  rw [okX0_listed]
  decide +kernel
set_option maxRecDepth 100000 in
theorem fJ0_charAt_5068e : okYv mJ0_charAt_5068e 1 121 528 529 = true := by
  unfold okYv
  rw [okJ0_charAt_5068e]
  decide +kernel
set_option maxRecDepth 100000 in
theorem fX7_bribesAgain : okYv mX7_bribesAgain 0 117 1321 109 = true := by
  unfold okYv
  rw [okX7_bribesAgain]
  decide +kernel
set_option maxRecDepth 100000 in
theorem fX6_feed : okYv mX6_feed 1 111 464 465 = true := by
  unfold okYv
  rw [okX6_feed]
  decide +kernel
set_option maxRecDepth 100000 in
theorem fX7_cell : okYv mX7_cell 3 117 1343 1344 = true := by
  unfold okYv
  rw [okX7_cell]
  decide +kernel
set_option maxRecDepth 100000 in
theorem fX7_read : okYv mX7_read 2 117 1094 78 = true := by
  unfold okYv
  rw [okX7_read]
  decide +kernel
set_option maxRecDepth 100000 in
theorem fX0_hasCitizen : okYv mX0_hasCitizen 1 114 333 4 = true := by
  unfold okYv
  rw [okX0_hasCitizen]
  decide +kernel
set_option maxRecDepth 100000 in
theorem fX6_kindsBy : okYv mX6_kindsBy 2 111 775 63 = true := by
  unfold okYv
  rw [okX6_kindsBy]
  decide +kernel
set_option maxRecDepth 100000 in
theorem fX6_chance : okYv mX6_chance 3 111 812 813 = true := by
  unfold okYv
  rw [okX6_chance]
  decide +kernel
set_option maxRecDepth 100000 in
theorem fJ0_coder_7d493 : okYv mJ0_coder_7d493 0 121 522 523 = true := by
  unfold okYv
  rw [okJ0_coder_7d493]
  decide +kernel
set_option maxRecDepth 100000 in
theorem fX5_keep : okYv mX5_keep 0 112 157 3 = true := by
  unfold okYv
  rw [okX5_keep]
  decide +kernel
set_option maxRecDepth 100000 in
theorem fX6_taken : okYv mX6_taken 2 111 864 865 = true := by
  unfold okYv
  rw [okX6_taken]
  decide +kernel
set_option maxRecDepth 100000 in
theorem fX7_asks : okYv mX7_asks 3 117 1086 77 = true := by
  unfold okYv
  rw [okX7_asks]
  decide +kernel
set_option maxRecDepth 100000 in
theorem fJ0_isLatin1_aae02 : okYv mJ0_isLatin1_aae02 0 121 532 533 = true := by
  unfold okYv
  rw [okJ0_isLatin1_aae02]
  decide +kernel
set_option maxRecDepth 100000 in
theorem fX7_gone : okYv mX7_gone 0 117 1216 98 = true := by
  unfold okYv
  rw [okX7_gone]
  decide +kernel
set_option maxRecDepth 100000 in
theorem fX3_readSum : okYv mX3_readSum 1 113 597 37 = true := by
  unfold okYv
  rw [okX3_readSum]
  decide +kernel
set_option maxRecDepth 100000 in
theorem fX0_goOnWith : okYv mX0_goOnWith 2 114 664 46 = true := by
  unfold okYv
  rw [okX0_goOnWith]
  decide +kernel
set_option maxRecDepth 100000 in
theorem fX0_addCitizen : okYv mX0_addCitizen 2 114 452 23 = true := by
  unfold okYv
  rw [okX0_addCitizen]
  decide +kernel
set_option maxRecDepth 100000 in
theorem fX7_bitsOf : okYs mX7_bitsOf 1 117 1166 = true := by
  unfold okYs
  rw [okX7_bitsOf]
  decide +kernel
set_option maxRecDepth 100000 in
theorem fX3_isBlank : okYs mX3_isBlank 1 113 489 = true := by
  unfold okYs
  rw [okX3_isBlank]
  decide +kernel
set_option maxRecDepth 100000 in
theorem fX7_sits : okYv mX7_sits 0 117 1232 100 = true := by
  unfold okYv
  rw [okX7_sits]
  decide +kernel
set_option maxRecDepth 100000 in
theorem fX7_silenceOf : okYv mX7_silenceOf 2 117 1170 94 = true := by
  unfold okYv
  rw [okX7_silenceOf]
  decide +kernel
set_option maxRecDepth 100000 in
theorem fX6_ways : okYv mX6_ways 2 111 759 59 = true := by
  unfold okYv
  rw [okX6_ways]
  decide +kernel
set_option maxRecDepth 100000 in
theorem fX6_turned : okYv mX6_turned 1 111 720 721 = true := by
  unfold okYv
  rw [okX6_turned]
  decide +kernel
set_option maxRecDepth 100000 in
theorem fX6_list : okYv mX6_list 1 111 618 619 = true := by
  unfold okYv
  rw [okX6_list]
  decide +kernel
set_option maxRecDepth 100000 in
theorem fJ3_checkIndex_8e157 : okYs mJ3_checkIndex_8e157 3 123 544 = true := by
  unfold okYs
  rw [okJ3_checkIndex_8e157]
  decide +kernel
set_option maxRecDepth 100000 in
theorem fX7_isItem : okYv mX7_isItem 1 117 1072 74 = true := by
  unfold okYv
  rw [okX7_isItem]
  decide +kernel
set_option maxRecDepth 100000 in
theorem fX5_init : okYi mX5_init 0 112 137 = true := by
  unfold okYi
  rw [okX5_init]
  decide +kernel
set_option maxRecDepth 100000 in
theorem fX6_tells : okYv mX6_tells 2 111 724 725 = true := by
  unfold okYv
  rw [okX6_tells]
  decide +kernel
set_option maxRecDepth 100000 in
theorem fX0_timeOf : okYv mX0_timeOf 2 114 406 15 = true := by
  unfold okYv
  rw [okX0_timeOf]
  decide +kernel
set_option maxRecDepth 100000 in
theorem fX7_name : okYv mX7_name 0 117 1158 93 = true := by
  unfold okYv
  rw [okX7_name]
  decide +kernel
set_option maxRecDepth 100000 in
theorem fX2_init : okYi mX2_init 0 115 261 = true := by
  unfold okYi
  rw [okX2_init]
  decide +kernel
set_option maxRecDepth 100000 in
theorem fX4_hasItems : okYv mX4_hasItems 3 116 850 70 = true := by
  unfold okYv
  rw [okX4_hasItems]
  decide +kernel
set_option maxRecDepth 100000 in
theorem fX6_toldOfCitizen : okYv mX6_toldOfCitizen 2 111 337 5 = true := by
  unfold okYv
  rw [okX6_toldOfCitizen]
  decide +kernel
set_option maxRecDepth 100000 in
theorem fX7_both : okYv mX7_both 0 117 1130 86 = true := by
  unfold okYv
  rw [okX7_both]
  decide +kernel
set_option maxRecDepth 100000 in
theorem fX6_by : okYv mX6_by 1 111 640 641 = true := by
  unfold okYv
  rw [okX6_by]
  decide +kernel
set_option maxRecDepth 100000 in
theorem fX3_spelling : okYs mX3_spelling 1 113 499 = true := by
  unfold okYs
  rw [okX3_spelling]
  decide +kernel
set_option maxRecDepth 100000 in
theorem fX4_init : okYi mX4_init 0 116 285 = true := by
  unfold okYi
  rw [okX4_init]
  decide +kernel
set_option maxRecDepth 100000 in
theorem fX7_goneBy : okYv mX7_goneBy 2 117 1220 99 = true := by
  unfold okYv
  rw [okX7_goneBy]
  decide +kernel
set_option maxRecDepth 100000 in
theorem fX3_readNot : okYv mX3_readNot 1 113 589 35 = true := by
  unfold okYv
  rw [okX3_readNot]
  decide +kernel
set_option maxRecDepth 100000 in
theorem fX7_in : okYs mX7_in 3 117 1056 = true := by
  unfold okYs
  rw [okX7_in]
  decide +kernel
set_option maxRecDepth 100000 in
theorem fX0_minutesLeft : okYv mX0_minutesLeft 0 114 630 41 = true := by
  unfold okYv
  rw [okX0_minutesLeft]
  decide +kernel
set_option maxRecDepth 100000 in
theorem fX3_readOr : okYv mX3_readOr 1 113 581 33 = true := by
  unfold okYv
  rw [okX3_readOr]
  decide +kernel
set_option maxRecDepth 100000 in
theorem fX7_leftNow : okYv mX7_leftNow 0 117 1212 97 = true := by
  unfold okYv
  rw [okX7_leftNow]
  decide +kernel
set_option maxRecDepth 100000 in
theorem fX6_force : okYv mX6_force 1 111 613 614 = true := by
  unfold okYv
  rw [okX6_force]
  decide +kernel
set_option maxRecDepth 100000 in
theorem fX0_soFarOf : okYv mX0_soFarOf 1 114 426 19 = true := by
  unfold okYv
  rw [okX0_soFarOf]
  decide +kernel
set_option maxRecDepth 100000 in
theorem fX4_lay : okYv mX4_lay 3 116 795 67 = true := by
  unfold okYv
  rw [okX4_lay]
  decide +kernel
set_option maxRecDepth 100000 in
theorem fX3_passNumber : okYv mX3_passNumber 0 113 570 31 = true := by
  unfold okYv
  rw [okX3_passNumber]
  decide +kernel
set_option maxRecDepth 100000 in
theorem fX0_spentByList : okYv mX0_spentByList 0 114 767 61 = true := by
  unfold okYv
  rw [okX0_spentByList]
  decide +kernel
set_option maxRecDepth 100000 in
theorem fX6_sit : okYv mX6_sit 0 111 649 650 = true := by
  unfold okYv
  rw [okX6_sit]
  decide +kernel
set_option maxRecDepth 100000 in
theorem fX6_init : okYi mX6_init 0 111 129 = true := by
  unfold okYi
  rw [okX6_init]
  decide +kernel
set_option maxRecDepth 100000 in
theorem fX7_isLetter : okYv mX7_isLetter 2 117 1114 82 = true := by
  unfold okYv
  rw [okX7_isLetter]
  decide +kernel
set_option maxRecDepth 100000 in
theorem fX7_added : okYv mX7_added 0 117 1142 89 = true := by
  unfold okYv
  rw [okX7_added]
  decide +kernel
set_option maxRecDepth 100000 in
theorem fX7_chance : okYv mX7_chance 3 117 1324 1325 = true := by
  unfold okYv
  rw [okX7_chance]
  decide +kernel
set_option maxRecDepth 100000 in
theorem fX6_inLowestTerms : okYs mX6_inLowestTerms 3 111 817 = true := by
  unfold okYs
  rw [okX6_inLowestTerms]
  decide +kernel
set_option maxRecDepth 100000 in
theorem fX3_init : okYi mX3_init 1 113 180 = true := by
  unfold okYi
  rw [okX3_init]
  decide +kernel
set_option maxRecDepth 100000 in
theorem fX7_told : okYv mX7_told 2 117 1066 1067 = true := by
  unfold okYv
  rw [okX7_told]
  decide +kernel
set_option maxRecDepth 100000 in
theorem fX6_fewest : okYv mX6_fewest 1 111 683 684 = true := by
  unfold okYv
  rw [okX6_fewest]
  decide +kernel
set_option maxRecDepth 100000 in
theorem fX6_run : okYv mX6_run 2 111 668 669 = true := by
  unfold okYv
  rw [okX6_run]
  decide +kernel
set_option maxRecDepth 100000 in
theorem fX0_hasItem : okYv mX0_hasItem 1 114 413 16 = true := by
  unfold okYv
  rw [okX0_hasItem]
  decide +kernel
set_option maxRecDepth 100000 in
theorem fX7_list : okYv mX7_list 1 117 1206 1207 = true := by
  unfold okYv
  rw [okX7_list]
  decide +kernel
set_option maxRecDepth 100000 in
theorem fX3_isSign : okYs mX3_isSign 1 113 573 = true := by
  unfold okYs
  rw [okX3_isSign]
  decide +kernel
set_option maxRecDepth 100000 in
theorem fX1_above : okYs mX1_above 1 120 871 = true := by
  unfold okYs
  rw [okX1_above]
  decide +kernel
set_option maxRecDepth 100000 in
theorem fX0_isRead : okYv mX0_isRead 2 114 358 10 = true := by
  unfold okYv
  rw [okX0_isRead]
  decide +kernel
set_option maxRecDepth 100000 in
theorem fX7_draws : okYv mX7_draws 1 117 1316 108 = true := by
  unfold okYv
  rw [okX7_draws]
  decide +kernel
set_option maxRecDepth 100000 in
theorem fX6_order : okYv mX6_order 1 111 700 701 = true := by
  unfold okYv
  rw [okX6_order]
  decide +kernel
set_option maxRecDepth 100000 in
theorem fX1_isUnder : okYs mX1_isUnder 2 120 868 = true := by
  unfold okYs
  rw [okX1_isUnder]
  decide +kernel
set_option maxRecDepth 100000 in
theorem fX7_tells : okYv mX7_tells 2 117 1290 1291 = true := by
  unfold okYv
  rw [okX7_tells]
  decide +kernel
set_option maxRecDepth 100000 in
theorem fX4_valueAt : okYv mX4_valueAt 2 116 750 57 = true := by
  unfold okYv
  rw [okX4_valueAt]
  decide +kernel
set_option maxRecDepth 100000 in
theorem fX7_not : okYv mX7_not 0 117 1134 87 = true := by
  unfold okYv
  rw [okX7_not]
  decide +kernel
set_option maxRecDepth 100000 in
theorem fX6_set : okYv mX6_set 3 111 324 325 = true := by
  unfold okYv
  rw [okX6_set]
  decide +kernel
set_option maxRecDepth 100000 in
theorem fX7_film : okYv mX7_film 1 117 1302 1303 = true := by
  unfold okYv
  rw [okX7_film]
  decide +kernel
set_option maxRecDepth 100000 in
theorem fX7_count : okYv mX7_count 1 117 1338 1339 = true := by
  unfold okYv
  rw [okX7_count]
  decide +kernel
set_option maxRecDepth 100000 in
theorem fX6_citizens : okYv mX6_citizens 4 111 859 860 = true := by
  unfold okYv
  rw [okX6_citizens]
  decide +kernel
set_option maxRecDepth 100000 in
theorem fX6_numbersBy : okYv mX6_numbersBy 2 111 783 65 = true := by
  unfold okYv
  rw [okX6_numbersBy]
  decide +kernel
set_option maxRecDepth 100000 in
theorem fX0_kindOf : okYv mX0_kindOf 1 114 350 8 = true := by
  unfold okYv
  rw [okX0_kindOf]
  decide +kernel
set_option maxRecDepth 100000 in
theorem fX5_value : okYv mX5_value 3 112 372 12 = true := by
  unfold okYv
  rw [okX5_value]
  decide +kernel
set_option maxRecDepth 100000 in
theorem fX0_lookAt : okYv mX0_lookAt 2 114 362 11 = true := by
  unfold okYv
  rw [okX0_lookAt]
  decide +kernel
set_option maxRecDepth 100000 in
theorem fX0_putBribe : okYv mX0_putBribe 2 114 441 22 = true := by
  unfold okYv
  rw [okX0_putBribe]
  decide +kernel
set_option maxRecDepth 100000 in
theorem fX0_drawBribes : okYv mX0_drawBribes 1 114 807 69 = true := by
  unfold okYv
  rw [okX0_drawBribes]
  decide +kernel
set_option maxRecDepth 100000 in
theorem fX7_seeks : okYv mX7_seeks 4 117 1279 105 = true := by
  unfold okYv
  rw [okX7_seeks]
  decide +kernel
set_option maxRecDepth 100000 in
theorem fX7_drawn : okYv mX7_drawn 1 117 1311 1312 = true := by
  unfold okYv
  rw [okX7_drawn]
  decide +kernel
set_option maxRecDepth 100000 in
theorem fX7_mostOf : okYs mX7_mostOf 1 117 1063 = true := by
  unfold okYs
  rw [okX7_mostOf]
  decide +kernel
set_option maxRecDepth 100000 in
theorem fX3_passToken : okYv mX3_passToken 0 113 486 28 = true := by
  unfold okYv
  rw [okX3_passToken]
  decide +kernel
set_option maxRecDepth 100000 in
theorem fX4_sizeOf : okYv mX4_sizeOf 1 116 746 56 = true := by
  unfold okYv
  rw [okX4_sizeOf]
  decide +kernel
set_option maxRecDepth 100000 in
theorem fX7_opens : okYv mX7_opens 0 117 1138 88 = true := by
  unfold okYv
  rw [okX7_opens]
  decide +kernel
set_option maxRecDepth 100000 in
theorem fX7_sit : okYv mX7_sit 0 117 1227 1228 = true := by
  unfold okYv
  rw [okX7_sit]
  decide +kernel
set_option maxRecDepth 100000 in
theorem fX7_text : okYv mX7_text 0 117 1198 1199 = true := by
  unfold okYv
  rw [okX7_text]
  decide +kernel
set_option maxRecDepth 100000 in
theorem fX7_soonest : okYv mX7_soonest 2 117 1261 1262 = true := by
  unfold okYv
  rw [okX7_soonest]
  decide +kernel
set_option maxRecDepth 100000 in
theorem fX7_spell : okYv mX7_spell 9 117 881 72 = true := by
  unfold okYv
  rw [okX7_spell]
  decide +kernel
set_option maxRecDepth 100000 in
theorem fJ1_charAt_3b067 : okYs mJ1_charAt_3b067 2 122 536 = true := by
  unfold okYs
  rw [okJ1_charAt_3b067]
  decide +kernel
set_option maxRecDepth 100000 in
theorem fX7_laysAside : okYv mX7_laysAside 0 117 1242 101 = true := by
  unfold okYv
  rw [okX7_laysAside]
  decide +kernel
set_option maxRecDepth 100000 in
theorem fX3_addByte : okYv mX3_addByte 1 113 469 25 = true := by
  unfold okYv
  rw [okX3_addByte]
  decide +kernel
set_option maxRecDepth 100000 in
theorem fX7_laysBack : okYv mX7_laysBack 0 117 1250 103 = true := by
  unfold okYv
  rw [okX7_laysBack]
  decide +kernel
set_option maxRecDepth 100000 in
theorem fX5_isFull : okYv mX5_isFull 0 112 477 26 = true := by
  unfold okYv
  rw [okX5_isFull]
  decide +kernel
set_option maxRecDepth 100000 in
theorem fX0_putKind : okYv mX0_putKind 2 114 779 64 = true := by
  unfold okYv
  rw [okX0_putKind]
  decide +kernel
set_option maxRecDepth 100000 in
theorem fX7_taken : okYv mX7_taken 2 117 1357 1358 = true := by
  unfold okYv
  rw [okX7_taken]
  decide +kernel
set_option maxRecDepth 100000 in
theorem fX3_passed : okYv mX3_passed 1 113 577 32 = true := by
  unfold okYv
  rw [okX3_passed]
  decide +kernel
set_option maxRecDepth 100000 in
theorem fX0_spentBy : okYv mX0_spentBy 1 114 646 43 = true := by
  unfold okYv
  rw [okX0_spentBy]
  decide +kernel
set_option maxRecDepth 100000 in
theorem fX3_isSpelt : okYv mX3_isSpelt 1 113 515 30 = true := by
  unfold okYv
  rw [okX3_isSpelt]
  decide +kernel
set_option maxRecDepth 100000 in
theorem fX4_move : okYv mX4_move 5 116 854 71 = true := by
  unfold okYv
  rw [okX4_move]
  decide +kernel
set_option maxRecDepth 100000 in
theorem fX3_passWord : okYv mX3_passWord 0 113 496 29 = true := by
  unfold okYv
  rw [okX3_passWord]
  decide +kernel
set_option maxRecDepth 100000 in
theorem fX5_put : okYv mX5_put 1 112 149 1 = true := by
  unfold okYv
  rw [okX5_put]
  decide +kernel
set_option maxRecDepth 100000 in
theorem fX7_isWord : okYv mX7_isWord 8 117 1110 81 = true := by
  unfold okYv
  rw [okX7_isWord]
  decide +kernel
set_option maxRecDepth 100000 in
theorem fX7_timeOf : okYv mX7_timeOf 2 117 1174 95 = true := by
  unfold okYv
  rw [okX7_timeOf]
  decide +kernel
set_option maxRecDepth 100000 in
theorem fX0_itemsDone : okYv mX0_itemsDone 0 114 654 44 = true := by
  unfold okYv
  rw [okX0_itemsDone]
  decide +kernel
set_option maxRecDepth 100000 in
theorem fX7_byteAt : okYv mX7_byteAt 1 117 1102 80 = true := by
  unfold okYv
  rw [okX7_byteAt]
  decide +kernel
theorem kX0_61 : lnk RX0 61 yX0_hasCitizen := lnk_of (t := 343) (by decide +kernel)
theorem kX0_65 : lnk RX0 65 yX0_hasItem := lnk_of (t := 423) (by decide +kernel)
theorem kX0_68 : lnk RX0 68 yX0_doneAt := lnk_of (t := 656) (by decide +kernel)
theorem kX0_72 : lnk RX0 72 yX0_putBribe := lnk_of (t := 810) (by decide +kernel)
theorem kX0_76 : lnk RX0 76 yJ6_bitCount_0f7a4 := lnk_of (t := 364) (by decide +kernel)
theorem kX0_81 : lnk RX0 81 yX0_lookAt := lnk_of (t := 360) (by decide +kernel)
theorem kX0_84 : lnk RX0 84 yX5_value := lnk_of (t := 370) (by decide +kernel)
theorem kX0_88 : lnk RX0 88 yX0_kindOf := lnk_of (t := 390) (by decide +kernel)
theorem kX0_91 : lnk RX0 91 yX0_numberOf := lnk_of (t := 391) (by decide +kernel)
theorem kX0_94 : lnk RX0 94 yX0_bribeOf := lnk_of (t := 392) (by decide +kernel)
theorem kX0_97 : lnk RX0 97 yX1_isRead := lnk_of (t := 393) (by decide +kernel)
theorem kX0_103 : lnk RX0 103 yX1_silence := lnk_of (t := 401) (by decide +kernel)
theorem kX0_107 : lnk RX0 107 yX1_time := lnk_of (t := 408) (by decide +kernel)
theorem kX0_111 : lnk RX0 111 yX0_isRead := lnk_of (t := 356) (by decide +kernel)
theorem kX0_114 : lnk RX0 114 yX0_timeOf := lnk_of (t := 626) (by decide +kernel)
theorem kX0_118 : lnk RX0 118 yX0_silenceOf := lnk_of (t := 627) (by decide +kernel)
theorem kX0_121 : lnk RX0 121 yX0_everyone := lnk_of (t := 632) (by decide +kernel)
theorem kX0_125 : lnk RX0 125 yX0_spentOn := lnk_of (t := 637) (by decide +kernel)
theorem kX0_128 : lnk RX0 128 yX0_listed := lnk_of (t := 636) (by decide +kernel)
theorem kX0_131 : lnk RX0 131 yJ9_max_7cf53 := lnk_of (t := 638) (by decide +kernel)
theorem kX0_136 : lnk RX0 136 yX0_minutesLeft := lnk_of (t := 661) (by decide +kernel)
theorem kX0_139 : lnk RX0 139 yX0_goOnWith := lnk_of (t := 662) (by decide +kernel)
theorem kX0_142 : lnk RX0 142 yJ9_min_7cf53 := lnk_of (t := 666) (by decide +kernel)
theorem kX0_145 : lnk RX0 145 yX0_hold := lnk_of (t := 694) (by decide +kernel)
theorem kX1_11 : lnk RX1 11 yX1_above := lnk_of (t := 870) (by decide +kernel)
theorem kX2_20 : lnk RX2 20 yX0_takesOf := lnk_of (t := 707) (by decide +kernel)
theorem kX2_24 : lnk RX2 24 yX0_soFarOf := lnk_of (t := 708) (by decide +kernel)
theorem kX2_34 : lnk RX2 34 yX0_minutesLeft := lnk_of (t := 709) (by decide +kernel)
theorem kX2_47 : lnk RX2 47 yX2_tryAll := lnk_of (t := 711) (by decide +kernel)
theorem kX2_51 : lnk RX2 51 yX2_sittingAfter := lnk_of (t := 715) (by decide +kernel)
theorem kX3_25 : lnk RX3 25 yX5_begin := lnk_of (t := 483) (by decide +kernel)
theorem kX3_31 : lnk RX3 31 yX3_passToken := lnk_of (t := 484) (by decide +kernel)
theorem kX3_34 : lnk RX3 34 yX3_passed := lnk_of (t := 575) (by decide +kernel)
theorem kX3_38 : lnk RX3 38 yX3_readOr := lnk_of (t := 579) (by decide +kernel)
theorem kX3_41 : lnk RX3 41 yX5_endPart := lnk_of (t := 609) (by decide +kernel)
theorem kX3_48 : lnk RX3 48 yX5_keep := lnk_of (t := 610) (by decide +kernel)
theorem kX3_55 : lnk RX3 55 yX3_readAnd := lnk_of (t := 583) (by decide +kernel)
theorem kX3_58 : lnk RX3 58 yX5_put := lnk_of (t := 607) (by decide +kernel)
theorem kX3_61 : lnk RX3 61 yX3_readNot := lnk_of (t := 587) (by decide +kernel)
theorem kX3_64 : lnk RX3 64 yX3_readComparison := lnk_of (t := 591) (by decide +kernel)
theorem kX3_67 : lnk RX3 67 yX3_readSum := lnk_of (t := 595) (by decide +kernel)
theorem kX3_70 : lnk RX3 70 yX3_readTerm := lnk_of (t := 599) (by decide +kernel)
theorem kX3_73 : lnk RX3 73 yX3_readOne := lnk_of (t := 603) (by decide +kernel)
theorem kX3_79 : lnk RX3 79 yX5_cellOfName := lnk_of (t := 608) (by decide +kernel)
theorem kX3_83 : lnk RX3 83 yX3_isBlank := lnk_of (t := 488) (by decide +kernel)
theorem kX3_86 : lnk RX3 86 yX3_isLetter := lnk_of (t := 491) (by decide +kernel)
theorem kX3_89 : lnk RX3 89 yX3_passWord := lnk_of (t := 494) (by decide +kernel)
theorem kX3_92 : lnk RX3 92 yX3_isDigit := lnk_of (t := 565) (by decide +kernel)
theorem kX3_95 : lnk RX3 95 yX3_passNumber := lnk_of (t := 568) (by decide +kernel)
theorem kX3_98 : lnk RX3 98 yX3_isSign := lnk_of (t := 572) (by decide +kernel)
theorem kX3_101 : lnk RX3 101 yX3_spelling := lnk_of (t := 498) (by decide +kernel)
theorem kX3_105 : lnk RX3 105 yX3_isSpelt := lnk_of (t := 513) (by decide +kernel)
theorem kX3_109 : lnk RX3 109 yJ0_length_8abf5 := lnk_of (t := 517) (by decide +kernel)
theorem kX3_114 : lnk RX3 114 yJ0_charAt_5068e := lnk_of (t := 527) (by decide +kernel)
theorem kX4_19 : lnk RX4 19 yX4_hasPlace := lnk_of (t := 743) (by decide +kernel)
theorem kX4_23 : lnk RX4 23 yX4_sortOf := lnk_of (t := 739) (by decide +kernel)
theorem kX4_27 : lnk RX4 27 yX4_sizeOf := lnk_of (t := 756) (by decide +kernel)
theorem kX4_30 : lnk RX4 30 yX4_hasItem := lnk_of (t := 752) (by decide +kernel)
theorem kX4_34 : lnk RX4 34 yX4_hasItems := lnk_of (t := 856) (by decide +kernel)
theorem kX5_19 : lnk RX5 19 yX5_begin := lnk_of (t := 140) (by decide +kernel)
theorem kX5_22 : lnk RX5 22 yX5_cellOfName := lnk_of (t := 144) (by decide +kernel)
theorem kX5_26 : lnk RX5 26 yX5_put := lnk_of (t := 147) (by decide +kernel)
theorem kX5_30 : lnk RX5 30 yX5_endPart := lnk_of (t := 151) (by decide +kernel)
theorem kX5_33 : lnk RX5 33 yX5_keep := lnk_of (t := 155) (by decide +kernel)
theorem kX5_44 : lnk RX5 44 yX5_hasText := lnk_of (t := 374) (by decide +kernel)
theorem kX5_48 : lnk RX5 48 yX5_valueOfName := lnk_of (t := 378) (by decide +kernel)
theorem kX5_52 : lnk RX5 52 yX5_ofBoth := lnk_of (t := 381) (by decide +kernel)
theorem kX5_56 : lnk RX5 56 yJ9_min_7cf53 := lnk_of (t := 384) (by decide +kernel)
theorem kX5_62 : lnk RX5 62 yJ9_max_7cf53 := lnk_of (t := 387) (by decide +kernel)
theorem kX6_9 : lnk RX6 9 yX5_init := lnk_of (t := 136) (by decide +kernel)
theorem kX6_18 : lnk RX6 18 yX3_init := lnk_of (t := 179) (by decide +kernel)
theorem kX6_27 : lnk RX6 27 yX0_init := lnk_of (t := 208) (by decide +kernel)
theorem kX6_44 : lnk RX6 44 yX2_init := lnk_of (t := 260) (by decide +kernel)
theorem kX6_51 : lnk RX6 51 yX4_init := lnk_of (t := 284) (by decide +kernel)
theorem kX6_56 : lnk RX6 56 yX6_told := lnk_of (t := 327) (by decide +kernel)
theorem kX6_60 : lnk RX6 60 yX6_highest := lnk_of (t := 432) (by decide +kernel)
theorem kX6_71 : lnk RX6 71 yX0_putNumber := lnk_of (t := 435) (by decide +kernel)
theorem kX6_75 : lnk RX6 75 yX0_putBribe := lnk_of (t := 439) (by decide +kernel)
theorem kX6_78 : lnk RX6 78 yX1_isOne := lnk_of (t := 447) (by decide +kernel)
theorem kX6_84 : lnk RX6 84 yX0_addCitizen := lnk_of (t := 450) (by decide +kernel)
theorem kX6_87 : lnk RX6 87 yX0_addItem := lnk_of (t := 458) (by decide +kernel)
theorem kX6_90 : lnk RX6 90 yX0_hasCitizen := lnk_of (t := 331) (by decide +kernel)
theorem kX6_93 : lnk RX6 93 yX6_toldOfCitizen := lnk_of (t := 335) (by decide +kernel)
theorem kX6_96 : lnk RX6 96 yX0_hasItem := lnk_of (t := 411) (by decide +kernel)
theorem kX6_99 : lnk RX6 99 yX6_toldOfItem := lnk_of (t := 415) (by decide +kernel)
theorem kX6_102 : lnk RX6 102 yX0_numberOf := lnk_of (t := 339) (by decide +kernel)
theorem kX6_105 : lnk RX6 105 yX0_bribeOf := lnk_of (t := 344) (by decide +kernel)
theorem kX6_108 : lnk RX6 108 yX0_kindOf := lnk_of (t := 348) (by decide +kernel)
theorem kX6_111 : lnk RX6 111 yX0_listed := lnk_of (t := 352) (by decide +kernel)
theorem kX6_115 : lnk RX6 115 yX0_isRead := lnk_of (t := 396) (by decide +kernel)
theorem kX6_119 : lnk RX6 119 yX0_silenceOf := lnk_of (t := 397) (by decide +kernel)
theorem kX6_122 : lnk RX6 122 yX0_timeOf := lnk_of (t := 404) (by decide +kernel)
theorem kX6_125 : lnk RX6 125 yX0_takesOf := lnk_of (t := 419) (by decide +kernel)
theorem kX6_128 : lnk RX6 128 yX0_soFarOf := lnk_of (t := 424) (by decide +kernel)
theorem kX6_131 : lnk RX6 131 yX0_doneAt := lnk_of (t := 428) (by decide +kernel)
theorem kX6_134 : lnk RX6 134 yX3_addByte := lnk_of (t := 467) (by decide +kernel)
theorem kX6_137 : lnk RX6 137 yX5_isFull := lnk_of (t := 475) (by decide +kernel)
theorem kX6_141 : lnk RX6 141 yX3_readTape := lnk_of (t := 479) (by decide +kernel)
theorem kX6_144 : lnk RX6 144 yX5_hasText := lnk_of (t := 616) (by decide +kernel)
theorem kX6_150 : lnk RX6 150 yJ6_bitCount_0f7a4 := lnk_of (t := 621) (by decide +kernel)
theorem kX6_155 : lnk RX6 155 yX0_spentOn := lnk_of (t := 622) (by decide +kernel)
theorem kX6_158 : lnk RX6 158 yX0_minutesLeft := lnk_of (t := 628) (by decide +kernel)
theorem kX6_161 : lnk RX6 161 yX0_everyone := lnk_of (t := 643) (by decide +kernel)
theorem kX6_164 : lnk RX6 164 yX0_spentBy := lnk_of (t := 644) (by decide +kernel)
theorem kX6_167 : lnk RX6 167 yX0_itemsDone := lnk_of (t := 652) (by decide +kernel)
theorem kX6_170 : lnk RX6 170 yX0_hold := lnk_of (t := 657) (by decide +kernel)
theorem kX6_173 : lnk RX6 173 yX0_become := lnk_of (t := 671) (by decide +kernel)
theorem kX6_177 : lnk RX6 177 yX0_doneWithin := lnk_of (t := 690) (by decide +kernel)
theorem kX6_183 : lnk RX6 183 yX2_weigh := lnk_of (t := 703) (by decide +kernel)
theorem kX6_192 : lnk RX6 192 yX4_hasPlace := lnk_of (t := 727) (by decide +kernel)
theorem kX6_195 : lnk RX6 195 yX6_canBeAsked := lnk_of (t := 731) (by decide +kernel)
theorem kX6_198 : lnk RX6 198 yX4_isMissing := lnk_of (t := 735) (by decide +kernel)
theorem kX6_201 : lnk RX6 201 yX4_sizeOf := lnk_of (t := 744) (by decide +kernel)
theorem kX6_204 : lnk RX6 204 yX4_valueAt := lnk_of (t := 748) (by decide +kernel)
theorem kX6_207 : lnk RX6 207 yX6_ways := lnk_of (t := 757) (by decide +kernel)
theorem kX6_210 : lnk RX6 210 yX6_textsBy := lnk_of (t := 761) (by decide +kernel)
theorem kX6_213 : lnk RX6 213 yX6_ofOneBy := lnk_of (t := 769) (by decide +kernel)
theorem kX6_220 : lnk RX6 220 yX0_spentByList := lnk_of (t := 765) (by decide +kernel)
theorem kX6_223 : lnk RX6 223 yX6_kindsBy := lnk_of (t := 773) (by decide +kernel)
theorem kX6_226 : lnk RX6 226 yX6_numbersBy := lnk_of (t := 781) (by decide +kernel)
theorem kX6_229 : lnk RX6 229 yX6_bribesBy := lnk_of (t := 785) (by decide +kernel)
theorem kX6_233 : lnk RX6 233 yX0_putKind := lnk_of (t := 777) (by decide +kernel)
theorem kX6_236 : lnk RX6 236 yX4_lay := lnk_of (t := 793) (by decide +kernel)
theorem kX6_240 : lnk RX6 240 yX4_store := lnk_of (t := 797) (by decide +kernel)
theorem kX6_243 : lnk RX6 243 yX0_drawBribes := lnk_of (t := 805) (by decide +kernel)
theorem kX6_249 : lnk RX6 249 yX6_inLowestTerms := lnk_of (t := 816) (by decide +kernel)
theorem kX6_258 : lnk RX6 258 yX4_isSort := lnk_of (t := 835) (by decide +kernel)
theorem kX6_261 : lnk RX6 261 yX4_hasItem := lnk_of (t := 842) (by decide +kernel)
theorem kX6_263 : lnk RX6 263 yX4_sortOf := lnk_of (t := 847) (by decide +kernel)
theorem kX6_266 : lnk RX6 266 yX4_hasItems := lnk_of (t := 848) (by decide +kernel)
theorem kX6_270 : lnk RX6 270 yX4_move := lnk_of (t := 852) (by decide +kernel)
theorem kX6_274 : lnk RX6 274 yX6_citizen := lnk_of (t := 862) (by decide +kernel)
theorem kX6_277 : lnk RX6 277 yX1_isUnder := lnk_of (t := 867) (by decide +kernel)
theorem kX7_79 : lnk RX7 79 yX7_spell := lnk_of (t := 879) (by decide +kernel)
theorem kX7_89 : lnk RX7 89 yX7_in := lnk_of (t := 1055) (by decide +kernel)
theorem kX7_98 : lnk RX7 98 yX7_isOne := lnk_of (t := 1058) (by decide +kernel)
theorem kX7_102 : lnk RX7 102 yX7_mostOf := lnk_of (t := 1062) (by decide +kernel)
theorem kX7_106 : lnk RX7 106 yX7_told := lnk_of (t := 1065) (by decide +kernel)
theorem kX7_110 : lnk RX7 110 yX7_lays := lnk_of (t := 1176) (by decide +kernel)
theorem kX7_128 : lnk RX7 128 yX7_isItem := lnk_of (t := 1070) (by decide +kernel)
theorem kX7_135 : lnk RX7 135 yX7_listNow := lnk_of (t := 1076) (by decide +kernel)
theorem kX7_139 : lnk RX7 139 yX7_bitsOf := lnk_of (t := 1165) (by decide +kernel)
theorem kX7_142 : lnk RX7 142 yX7_silenceOf := lnk_of (t := 1168) (by decide +kernel)
theorem kX7_145 : lnk RX7 145 yX7_timeOf := lnk_of (t := 1172) (by decide +kernel)
theorem kX7_162 : lnk RX7 162 yX7_byteAt := lnk_of (t := 1100) (by decide +kernel)
theorem kX7_190 : lnk RX7 190 yX7_isLetter := lnk_of (t := 1112) (by decide +kernel)
theorem kX7_197 : lnk RX7 197 yX7_fail := lnk_of (t := 1120) (by decide +kernel)
theorem kX7_200 : lnk RX7 200 yX7_next := lnk_of (t := 1096) (by decide +kernel)
theorem kX7_203 : lnk RX7 203 yX7_isWord := lnk_of (t := 1108) (by decide +kernel)
theorem kX7_225 : lnk RX7 225 yX7_isSign := lnk_of (t := 1152) (by decide +kernel)
theorem kX7_228 : lnk RX7 228 yX7_opens := lnk_of (t := 1136) (by decide +kernel)
theorem kX7_232 : lnk RX7 232 yX7_atom := lnk_of (t := 1148) (by decide +kernel)
theorem kX7_235 : lnk RX7 235 yX7_either := lnk_of (t := 1124) (by decide +kernel)
theorem kX7_238 : lnk RX7 238 yX7_name := lnk_of (t := 1156) (by decide +kernel)
theorem kX7_241 : lnk RX7 241 yX7_term := lnk_of (t := 1144) (by decide +kernel)
theorem kX7_246 : lnk RX7 246 yX7_not := lnk_of (t := 1132) (by decide +kernel)
theorem kX7_249 : lnk RX7 249 yX7_added := lnk_of (t := 1140) (by decide +kernel)
theorem kX7_254 : lnk RX7 254 yX7_both := lnk_of (t := 1128) (by decide +kernel)
theorem kX7_257 : lnk RX7 257 yX7_part := lnk_of (t := 1116) (by decide +kernel)
theorem kX7_261 : lnk RX7 261 yX7_read := lnk_of (t := 1092) (by decide +kernel)
theorem kX7_272 : lnk RX7 272 yX7_within := lnk_of (t := 1162) (by decide +kernel)
theorem kX7_276 : lnk RX7 276 yX7_asks := lnk_of (t := 1084) (by decide +kernel)
theorem kX7_279 : lnk RX7 279 yX7_isRead := lnk_of (t := 1080) (by decide +kernel)
theorem kX7_282 : lnk RX7 282 yX7_goneBy := lnk_of (t := 1218) (by decide +kernel)
theorem kX7_285 : lnk RX7 285 yX7_gone := lnk_of (t := 1214) (by decide +kernel)
theorem kX7_290 : lnk RX7 290 yX7_leftNow := lnk_of (t := 1210) (by decide +kernel)
theorem kX7_296 : lnk RX7 296 yX7_sits := lnk_of (t := 1230) (by decide +kernel)
theorem kX7_306 : lnk RX7 306 yX7_laysAside := lnk_of (t := 1240) (by decide +kernel)
theorem kX7_309 : lnk RX7 309 yX7_doneMany := lnk_of (t := 1244) (by decide +kernel)
theorem kX7_312 : lnk RX7 312 yX7_laysBack := lnk_of (t := 1248) (by decide +kernel)
theorem kX7_315 : lnk RX7 315 yX7_run := lnk_of (t := 1268) (by decide +kernel)
theorem kX7_318 : lnk RX7 318 yX7_doneAt := lnk_of (t := 1264) (by decide +kernel)
theorem kX7_327 : lnk RX7 327 yX7_sittingFor := lnk_of (t := 1281) (by decide +kernel)
theorem kX7_330 : lnk RX7 330 yX7_seeks := lnk_of (t := 1277) (by decide +kernel)
theorem kX7_348 : lnk RX7 348 yX7_isSheet := lnk_of (t := 1294) (by decide +kernel)
theorem kX7_351 : lnk RX7 351 yX7_looks := lnk_of (t := 1297) (by decide +kernel)
theorem kX7_355 : lnk RX7 355 yX7_sheet := lnk_of (t := 1305) (by decide +kernel)
theorem kX7_359 : lnk RX7 359 yX7_draws := lnk_of (t := 1314) (by decide +kernel)
theorem kX7_362 : lnk RX7 362 yX7_bribesAgain := lnk_of (t := 1319) (by decide +kernel)
theorem kX7_385 : lnk RX7 385 yX7_citizen := lnk_of (t := 1355) (by decide +kernel)
theorem kX7_388 : lnk RX7 388 yX7_over := lnk_of (t := 1360) (by decide +kernel)
theorem kJ0_335 : lnk RJ0 335 yJ0_coder_7d493 := lnk_of (t := 521) (by decide +kernel)
theorem kJ0_492 : lnk RJ0 492 yJ0_isLatin1_aae02 := lnk_of (t := 531) (by decide +kernel)
theorem kJ0_495 : lnk RJ0 495 yJ1_charAt_3b067 := lnk_of (t := 535) (by decide +kernel)
theorem kJ0_498 : lnk RJ0 498 yJ2_charAt_3b067 := lnk_of (t := 546) (by decide +kernel)
theorem kJ0_1059 : lnk RJ0 1059 yJ3_checkIndex_8e157 := lnk_of (t := 543) (by decide +kernel)
theorem kJ1_9 : lnk RJ1 9 yJ0_checkIndex_df160 := lnk_of (t := 538) (by decide +kernel)
theorem kJ2_48 : lnk RJ2 48 yJ2_length_9d52b := lnk_of (t := 552) (by decide +kernel)
theorem kJ2_67 : lnk RJ2 67 yJ2_checkIndex_2214a := lnk_of (t := 549) (by decide +kernel)
theorem kJ2_71 : lnk RJ2 71 yJ2_getChar_3b067 := lnk_of (t := 556) (by decide +kernel)
theorem kJ2_414 : lnk RJ2 414 yJ0_checkIndex_df160 := lnk_of (t := 555) (by decide +kernel)
theorem kL_9 : lnk RL 9 yX6_init := lnk_of (t := 128) (by decide +kernel)
theorem kL_12 : lnk RL 12 yX7_init := lnk_of (t := 875) (by decide +kernel)
theorem kL_13 : lnk RL 13 yX6_set := lnk_of (t := 323) (by decide +kernel)
theorem kL_17 : lnk RL 17 yX7_set := lnk_of (t := 1050) (by decide +kernel)
theorem kL_18 : lnk RL 18 yX6_citizen := lnk_of (t := 443) (by decide +kernel)
theorem kL_22 : lnk RL 22 yX7_citizen := lnk_of (t := 1180) (by decide +kernel)
theorem kL_23 : lnk RL 23 yX6_business := lnk_of (t := 454) (by decide +kernel)
theorem kL_27 : lnk RL 27 yX7_business := lnk_of (t := 1186) (by decide +kernel)
theorem kL_28 : lnk RL 28 yX6_told := lnk_of (t := 462) (by decide +kernel)
theorem kL_31 : lnk RL 31 yX7_told := lnk_of (t := 1191) (by decide +kernel)
theorem kL_32 : lnk RL 32 yX6_feed := lnk_of (t := 463) (by decide +kernel)
theorem kL_35 : lnk RL 35 yX7_feed := lnk_of (t := 1192) (by decide +kernel)
theorem kL_36 : lnk RL 36 yX6_text := lnk_of (t := 471) (by decide +kernel)
theorem kL_40 : lnk RL 40 yX7_text := lnk_of (t := 1197) (by decide +kernel)
theorem kL_41 : lnk RL 41 yX6_force := lnk_of (t := 612) (by decide +kernel)
theorem kL_44 : lnk RL 44 yX7_force := lnk_of (t := 1201) (by decide +kernel)
theorem kL_45 : lnk RL 45 yX6_list := lnk_of (t := 617) (by decide +kernel)
theorem kL_48 : lnk RL 48 yX7_list := lnk_of (t := 1205) (by decide +kernel)
theorem kL_49 : lnk RL 49 yX6_by := lnk_of (t := 639) (by decide +kernel)
theorem kL_52 : lnk RL 52 yX7_by := lnk_of (t := 1222) (by decide +kernel)
theorem kL_53 : lnk RL 53 yX6_sit := lnk_of (t := 648) (by decide +kernel)
theorem kL_56 : lnk RL 56 yX7_sit := lnk_of (t := 1226) (by decide +kernel)
theorem kL_57 : lnk RL 57 yX6_run := lnk_of (t := 667) (by decide +kernel)
theorem kL_60 : lnk RL 60 yX7_run := lnk_of (t := 1234) (by decide +kernel)
theorem kL_61 : lnk RL 61 yX6_shortest := lnk_of (t := 678) (by decide +kernel)
theorem kL_64 : lnk RL 64 yX7_shortest := lnk_of (t := 1252) (by decide +kernel)
theorem kL_65 : lnk RL 65 yX6_fewest := lnk_of (t := 682) (by decide +kernel)
theorem kL_68 : lnk RL 68 yX7_fewest := lnk_of (t := 1256) (by decide +kernel)
theorem kL_69 : lnk RL 69 yX6_soonest := lnk_of (t := 686) (by decide +kernel)
theorem kL_72 : lnk RL 72 yX7_soonest := lnk_of (t := 1260) (by decide +kernel)
theorem kL_73 : lnk RL 73 yX6_bribe := lnk_of (t := 695) (by decide +kernel)
theorem kL_76 : lnk RL 76 yX7_bribe := lnk_of (t := 1269) (by decide +kernel)
theorem kL_77 : lnk RL 77 yX6_order := lnk_of (t := 699) (by decide +kernel)
theorem kL_80 : lnk RL 80 yX7_order := lnk_of (t := 1273) (by decide +kernel)
theorem kL_81 : lnk RL 81 yX6_turned := lnk_of (t := 719) (by decide +kernel)
theorem kL_84 : lnk RL 84 yX7_turned := lnk_of (t := 1285) (by decide +kernel)
theorem kL_85 : lnk RL 85 yX6_tells := lnk_of (t := 723) (by decide +kernel)
theorem kL_88 : lnk RL 88 yX7_tells := lnk_of (t := 1289) (by decide +kernel)
theorem kL_89 : lnk RL 89 yX6_film := lnk_of (t := 789) (by decide +kernel)
theorem kL_92 : lnk RL 92 yX7_film := lnk_of (t := 1301) (by decide +kernel)
theorem kL_93 : lnk RL 93 yX6_drawn := lnk_of (t := 801) (by decide +kernel)
theorem kL_96 : lnk RL 96 yX7_drawn := lnk_of (t := 1310) (by decide +kernel)
theorem kL_97 : lnk RL 97 yX6_chance := lnk_of (t := 811) (by decide +kernel)
theorem kL_101 : lnk RL 101 yX7_chance := lnk_of (t := 1323) (by decide +kernel)
theorem kL_102 : lnk RL 102 yX6_image := lnk_of (t := 819) (by decide +kernel)
theorem kL_105 : lnk RL 105 yX7_image := lnk_of (t := 1329) (by decide +kernel)
theorem kL_106 : lnk RL 106 yX6_back := lnk_of (t := 823) (by decide +kernel)
theorem kL_109 : lnk RL 109 yX7_back := lnk_of (t := 1333) (by decide +kernel)
theorem kL_110 : lnk RL 110 yX6_count := lnk_of (t := 827) (by decide +kernel)
theorem kL_113 : lnk RL 113 yX7_count := lnk_of (t := 1337) (by decide +kernel)
theorem kL_114 : lnk RL 114 yX6_sheet := lnk_of (t := 831) (by decide +kernel)
theorem kL_117 : lnk RL 117 yX7_sheet := lnk_of (t := 1341) (by decide +kernel)
theorem kL_118 : lnk RL 118 yX6_cell := lnk_of (t := 838) (by decide +kernel)
theorem kL_121 : lnk RL 121 yX7_cell := lnk_of (t := 1342) (by decide +kernel)
theorem kL_122 : lnk RL 122 yX6_copy := lnk_of (t := 843) (by decide +kernel)
theorem kL_126 : lnk RL 126 yX7_copy := lnk_of (t := 1346) (by decide +kernel)
theorem kL_127 : lnk RL 127 yX6_citizens := lnk_of (t := 858) (by decide +kernel)
theorem kL_131 : lnk RL 131 yX7_citizens := lnk_of (t := 1350) (by decide +kernel)
theorem kL_132 : lnk RL 132 yX6_taken := lnk_of (t := 863) (by decide +kernel)
theorem kL_135 : lnk RL 135 yX7_taken := lnk_of (t := 1356) (by decide +kernel)
end
section
/-! THE WORLD AS NUMBERS: cells 0 .. n-1, each with ints, longs, references (by cell numbers); what a heap holds of it -/
abbrev I2 : Type := Nat → Nat → Int32
abbrev J2 : Type := Nat → Nat → Int64
abbrev F2 : Type := Nat → Nat → Option Nat
abbrev Lc : Type := List (Nat × Value)
def up2 {α : Type} (f : Nat → Nat → α) (o k : Nat) (v : α) : Nat → Nat → α := fun i j => if i = o then (if j = k then v else f i j) else f i j
def row2 {α : Type} (f : Nat → Nat → α) (o : Nat) (g : Nat → α) : Nat → Nat → α := fun i j => if i = o then g j else f i j
def cv (ad : Nat → Nat) : Value → Value
  | .ref i => .ref (ad i)
  | v => v
def cvl (ad : Nat → Nat) (q : Nat × Value) : Nat × Value := (q.1, cv ad q.2)
theorem cv_int (ad : Nat → Nat) (x : Int32) : cv ad (.int x) = .int x := rfl
theorem cv_long (ad : Nat → Nat) (x : Int64) : cv ad (.long x) = .long x := rfl
theorem cv_ref (ad : Nat → Nat) (i : Nat) : cv ad (.ref i) = .ref (ad i) := rfl
theorem cv_cat (ad : Nat → Nat) (v : Value) : (cv ad v).category = v.category := by cases v <;> rfl
def fv (I : I2) (J : J2) (F : F2) (o k : Nat) (ty : FieldType) : Value := match ty with
  | .int => .int (I o k)
  | .boolean => .int (I o k)
  | .long => .long (J o k)
  | _ => va_rf (F o k)
def arrA (I : I2) (J : J2) (i : Nat) (ty : FieldType) : (Nat → Int32) ⊕ (Nat → Int64) ⊕ (Nat → UInt32) ⊕ (Nat → UInt64) ⊕ (Nat → Option Nat) := match ty with
  | .long => .inr (.inl (J i))
  | _ => .inl (I i)
def cellA (cA : Nat → ClassId) (ad : Nat → Nat) (I : I2) (J : J2) (F : F2) (i : Nat) : va_E := match KD i with
  | .inl ci => .inr (ci, (List.range (nCl ci).2.2).map fun k => cv ad (fv I J F i k (tyF ci k)))
  | .inr q => .inl (cA i, q.1, arrA I J i q.2)
def wl (cA : Nat → ClassId) (ad : Nat → Nat) (n : Nat) (I : I2) (J : J2) (F : F2) : va_W := (List.range n).map fun i => (ad i, cellA cA ad I J F i)
theorem wl_get {cA : Nat → ClassId} {ad : Nat → Nat} {n i : Nat} {I : I2} {J : J2} {F : F2} (h : i < n) : (wl cA ad n I J F)[i]? = some (ad i, cellA cA ad I J F i) := by
  simp [wl, List.getElem?_map, List.getElem?_range h]
theorem wl_len {cA : Nat → ClassId} {ad : Nat → Nat} {n : Nat} {I : I2} {J : J2} {F : F2} : (wl cA ad n I J F).length = n := by simp [wl]
def fsO (ad : Nat → Nat) (I : I2) (J : J2) (F : F2) (o ci : Nat) : List Value := (List.range (nCl ci).2.2).map fun k => cv ad (fv I J F o k (tyF ci k))
theorem wl_obj {cA : Nat → ClassId} {ad : Nat → Nat} {n o ci : Nat} {I : I2} {J : J2} {F : F2} (h : o < n) (hk : KD o = .inl ci) : (wl cA ad n I J F)[o]? = some (ad o, .inr (ci, fsO ad I J F o ci)) := by
  rw [wl_get h]; simp [cellA, hk, fsO]
theorem fsO_get {ad : Nat → Nat} {I : I2} {J : J2} {F : F2} {o ci k : Nat} (h : k < (nCl ci).2.2) : (fsO ad I J F o ci)[k]? = some (cv ad (fv I J F o k (tyF ci k))) := by
  simp [fsO, List.getElem?_map, List.getElem?_range h]
theorem fsO_len {ad : Nat → Nat} {I : I2} {J : J2} {F : F2} {o ci : Nat} : (fsO ad I J F o ci).length = (nCl ci).2.2 := by simp [fsO]
theorem wl_arr {cA : Nat → ClassId} {ad : Nat → Nat} {n o len : Nat} {ty : FieldType} {I : I2} {J : J2} {F : F2} (h : o < n) (hk : KD o = .inr (len, ty)) : (wl cA ad n I J F)[o]? = some (ad o, .inl (cA o, len, arrA I J o ty)) := by
  rw [wl_get h]; simp [cellA, hk]
/-- what the tables say of the classes and of the arrays' classes -/
def KS (D : va_G) (cA : Nat → ClassId) (n : Nat) (s : State) : Prop := (∀ (c : Nat) (q : vw_C), vwCl[c]? = some q → u_Kn s q.1 q.2.1 q.2.2 (D.1 c) (D.2 c)) ∧ ∀ i, i < n → ∀ len ty, KD i = .inr (len, ty) → ArrOfT s (cA i) ty ∧ va_RA s (cA i) ty
theorem KS.K0 {D : va_G} {cA : Nat → ClassId} {n : Nat} {s : State} (h : KS D cA n s) : va_K D vwCl [] s := ⟨h.1, fun k q hq => by simp at hq⟩
theorem KS.K1 {D : va_G} {cA : Nat → ClassId} {n i len : Nat} {ty : FieldType} {s : State} (h : KS D cA n s) (hi : i < n) (hk : KD i = .inr (len, ty)) : va_K D vwCl [(cA i, ty)] s := by
  refine ⟨h.1, fun k q hq => ?_⟩
  match k, hq with
  | 0, hq => cases hq; exact h.2 i hi len ty hk
  | k + 1, hq => simp at hq
theorem KS.K2 {D : va_G} {cA : Nat → ClassId} {n i j len len' : Nat} {ty ty' : FieldType} {s : State} (h : KS D cA n s) (hi : i < n) (hk : KD i = .inr (len, ty)) (hj : j < n) (hk' : KD j = .inr (len', ty')) : va_K D vwCl [(cA i, ty), (cA j, ty')] s := by
  refine ⟨h.1, fun k q hq => ?_⟩
  match k, hq with
  | 0, hq => cases hq; exact h.2 i hi len ty hk
  | 1, hq => cases hq; exact h.2 j hj len' ty' hk'
  | k + 2, hq => simp at hq
theorem KS.moved {D : va_G} {cA : Nat → ClassId} {n : Nat} {u U : State} (hvm : u.vm.Alike U.vm) (h : KS D cA n u) : KS D cA n U :=
  ⟨fun c q hq => u_Kn_moved hvm (h.1 c q hq), fun i hi len ty hk => ⟨arrOfT_moved hvm (h.2 i hi len ty hk).1, (h.2 i hi len ty hk).2.moved hvm⟩⟩
/-- what stands outside the world: the texts' constants, two statics, the words of nest mates -/
def fmC : String := "jdk/internal/util/Preconditions"
def fmD : String := "Ljava/util/function/BiFunction;"
def En (ad0 : Nat → Nat) (A : Nat → Prop) (U : State) (H : Heap) : Prop :=
  vk_S 12 sLen sByt (fun i => ad0 (1000 + i)) (fun i => ad0 (2000 + i)) A U H ∧ (∀ i, i < 12 → vk_R RX3 (sIx.getD i 0) (sTx.getD i "") (ad0 (1000 + i)) U) ∧
  va_Z "java/lang/String" "COMPACT_STRINGS" "Z" (.int 1) A U H ∧ (∃ v, (v = .null ∨ v = .ref 3000) ∧ va_Z fmC "SIOOBE_FORMATTER" fmD (cv ad0 v) A U H) ∧ ∀ w ∈ tblN, va_Nw w U
theorem nw_warm {w : Cond} (hw : isNestW w = true) {s U : State} (hW : s.WarmedH U.vm) (h : va_Nw w s) : va_Nw w U := by
  cases w <;> simp [isNestW] at hw
  · exact va_Nw.warmM hW h
  · exact va_Nw.warmF hW h
theorem En.to {ad0 : Nat → Nat} {A B : Nat → Prop} {s U : State} {H : Heap} {locs : List Loc} (h : En ad0 A s s.heap) (hS : va_S A s.heap H locs) (hU : U.heap = H) (hW : s.WarmedH U.vm) (hAB : ∀ q, B q → A q) : En ad0 B U U.heap := by
  obtain ⟨h1, h2, h3, ⟨v, hv, h4⟩, h5⟩ := h
  rw [hU]
  refine ⟨((h1.kept hS.2.1).moved hW.alike).narrow hAB, fun i hi => (h2 i hi).warm hW, ((h3.kept hS.2.1).moved hW.alike).narrow hAB, ⟨v, hv, ((h4.kept hS.2.1).moved hW.alike).narrow hAB⟩, fun w hw => nw_warm (List.mem_filter.mp hw).2 hW (h5 w hw)⟩
theorem En.calling {ad0 : Nat → Nat} {A : Nat → Prop} {U : State} {g : JFrame} {mk : MethodId} {a : Array Value} (h : En ad0 A U U.heap) : En ad0 A (U.calling g mk a) (U.calling g mk a).heap := by
  obtain ⟨h1, h2, h3, ⟨v, hv, h4⟩, h5⟩ := h
  have hvm : U.vm.Alike (U.calling g mk a).vm := Vm.Alike.refl U.vm
  refine ⟨h1.moved hvm, fun i hi => vk_R.same (u := U) rfl (h2 i hi), h3.moved hvm, ⟨v, hv, h4.moved hvm⟩, fun w hw => ?_⟩
  have hw2 := (List.mem_filter.mp hw).2
  have h6 := h5 w hw
  cases w <;> simp [isNestW] at hw2
  · exact va_Nw.same (u := U) rfl rfl h6
  · exact va_Nw.same (u := U) rfl rfl h6
/-- the script, for the law alone -/
def scX (sc : Option (Nat × (Nat → Int32))) (ad0 : Nat → Nat) (A : Nat → Prop) (s : State) : Prop := match sc with
  | none => True
  | some q => va_X (ad0 4000) q.1 q.2 s s.heap ∧ ad0 4000 < s.heap.size ∧ ¬ A (ad0 4000)
def RetI (cc : ByteArray) (ret : Option FieldType) (rv : Option Value) (pc : Nat) : Prop := match rv with
  | none => decode cc pc = .ok (.return_, 1) ∧ ret = none
  | some (.int v) => decode cc pc = .ok (.ireturn, 1) ∧ ∃ ty, ret = some ty ∧ narrow ty (.int v) = .int v
  | some (.long _) => decode cc pc = .ok (.lreturn, 1) ∧ ret = some .long
  | some (.ref _) => decode cc pc = .ok (.areturn, 1) ∧ ∃ nm, ret = some (.object nm)
  | _ => False
def wfF (n : Nat) (F : F2) : Prop := ∀ i, i < n → ∀ k j, F i k = some j → j < n
abbrev QT : Type := Option Value → I2 → J2 → F2 → Prop
/-- how an activation ends -/
def Fin9 (mt : MT) (nE : Nat) (Q : QT) (p : Program) (l : Launch) (e : Env) (R : Room) (s : State) (m : MethodId) (args : Array Value) (below : List Frame) (meth : Method) (c : Code) (D : va_G) (A : Nat → Prop) (n0 : Nat) (ad0 : Nat → Nat) (Qf : State → Prop) : Prop :=
  ∀ (rv : Option Value) (I : I2) (J : J2) (F : F2) (cA : Nat → ClassId) (ad : Nat → Nat) (H : Heap) (locs : List Loc) (ls : Array Slot) (pc : Nat), Q rv I J F → va_P D vwCl (wl cA ad nE I J F) H → KS D cA nE s → va_D A (wl cA ad nE I J F) → va_S A s.heap H locs → wfF nE F → (∀ i, (i < n0 ∨ 1000 ≤ i ∨ nE = n0) → ad i = ad0 i) → RetI mt.2.2.1 mt.2.2.2.2.1 rv pc →
    W p l e R s m args below meth c H locs (nE - n0) (sl nE - sl n0) Qf (F0 m pc ls ((rv.map (cv ad)).toList))
/-- what holds of an activation throughout -/
def Act (mt : MT) (sc : Option (Nat × (Nat → Int32))) (d nE : Nat) (Q : QT) (p : Program) (l : Launch) (e : Env) (R : Room) (s : State) (m : MethodId) (args : Array Value) (below : List Frame) (meth : Method) (c : Code) (D : va_G) (A : Nat → Prop) (n0 : Nat) (ad0 : Nat → Nat) (Qf : State → Prop) : Prop :=
  p.tables.exec = Jvm.exec ∧ c.code = mt.2.2.1 ∧ okM mt = true ∧ meth.sig.returnType = mt.2.2.2.2.1 ∧ meth.locks = false ∧ c.maxLocals = mt.2.2.2.1 ∧ s.vm.findClass mt.1 = some m.cls ∧ meth.name = mt.2.1.name ∧
  (∀ w ∈ tblG, w.before args s = true) ∧ En ad0 A s s.heap ∧ (∀ q, s.heap.size ≤ q → A q) ∧ (d ≤ R.frames ∧ 40 * d ≤ R.locals ∧ nE - n0 ≤ R.cells ∧ sl nE - sl n0 ≤ R.slots) ∧ scX sc ad0 A s ∧ Fin9 mt nE Q p l e R s m args below meth c D A n0 ad0 Qf
/-- what holds of a state within -/
def SF (mt : MT) (nE : Nat) (s : State) (D : va_G) (A : Nat → Prop) (n0 : Nat) (ad0 : Nat → Nat) (cA : Nat → ClassId) (ad : Nat → Nat) (H : Heap) (locs : List Loc) (ls : Array Slot) (L : Lc) (n : Nat) (I : I2) (J : J2) (F : F2) : Prop :=
  n0 ≤ n ∧ n ≤ nE ∧ va_P D vwCl (wl cA ad n I J F) H ∧ KS D cA n s ∧ va_D A (wl cA ad n I J F) ∧ va_S A s.heap H locs ∧ wfF n F ∧ (∀ i, (i < n0 ∨ 1000 ≤ i ∨ n = n0) → ad i = ad0 i) ∧ lv_has ls mt.2.2.2.1 (L.map (cvl ad))
/-- THE WALK: from here the method comes to an end with Q -/
def V (mt : MT) (sc : Option (Nat × (Nat → Int32))) (d nE : Nat) (Q : QT) (pc : Nat) (L : Lc) (st : List Value) (n : Nat) (I : I2) (J : J2) (F : F2) : Prop :=
  ∀ (p : Program) (l : Launch) (e : Env) (R : Room) (s : State) (m : MethodId) (args : Array Value) (below : List Frame) (meth : Method) (c : Code) (D : va_G) (A : Nat → Prop) (n0 : Nat) (ad0 : Nat → Nat) (Qf : State → Prop), Act mt sc d nE Q p l e R s m args below meth c D A n0 ad0 Qf →
  ∀ (cA : Nat → ClassId) (ad : Nat → Nat) (H : Heap) (locs : List Loc) (ls : Array Slot), SF mt nE s D A n0 ad0 cA ad H locs ls L n I J F →
    W p l e R s m args below meth c H locs (n - n0) (sl n - sl n0) Qf (F0 m pc ls (st.map (cv ad)))
/-! the code tables -/
def fE (tbl : List E8) (pc : Nat) : Option E8 := match tbl with
  | [] => none
  | e :: r => match Nat.beq e.1 pc with
    | true => some e
    | false => fE r pc
theorem fE_mem {tbl : List E8} {pc : Nat} {e : E8} (h : fE tbl pc = some e) : e ∈ tbl ∧ e.1 = pc := by
  induction tbl with
  | nil => simp [fE] at h
  | cons a r ih =>
    unfold fE at h
    cases hb : Nat.beq a.1 pc with
    | true =>
      simp only [hb] at h
      cases h
      exact ⟨List.mem_cons_self, Nat.eq_of_beq_eq_true hb⟩
    | false =>
      simp only [hb] at h
      exact ⟨List.mem_cons_of_mem _ (ih h).1, (ih h).2⟩
theorem okM_e {mt : MT} (h : okM mt = true) {e : E8} (he : e ∈ mt.2.2.2.2.2.2) : okE mt.1 mt.2.2.1 mt.2.2.2.1 e = true := by
  obtain ⟨own, y, cc, nL, ret, wi, tbl⟩ := mt
  simp only [okM, Bool.and_eq_true, List.all_eq_true] at h
  exact h.2.2.2.2 e he
/-- what a row of the code table says -/
theorem row_of {mt : MT} (h : okM mt = true) {pc nx t ci k : Nat} {ins : Instr} {c32 : Int32} {c64 : Int64} (he : fE mt.2.2.2.2.2.2 pc = some (pc, ins, nx, t, c32, c64, ci, k)) (hs : isSw ins = false) : decode mt.2.2.1 pc = .ok (ins, ilen ins) ∧ nx = pc + ilen ins ∧ okI mt.1 mt.2.2.2.1 (pc, ins, nx, t, c32, c64, ci, k) = true := by
  have h1 := okM_e h (fE_mem he).1
  simp only [okE, Bool.and_eq_true, decide_eq_true_eq, hs, Bool.false_or] at h1
  obtain ⟨h2, h3, h4, h5⟩ := h1
  rw [h4] at h2
  have h6 : pc + ilen ins - pc = ilen ins := by omega
  rw [h6] at h2
  exact ⟨h2, h4, h5⟩
/-! the locals -/
def lkL (L : Lc) (i : Nat) : Option Value := match L with
  | [] => none
  | (j, v) :: r => match Nat.beq j i with
    | true => some v
    | false => lkL r i
theorem lkL_mem {L : Lc} {i : Nat} {v : Value} (h : lkL L i = some v) : (i, v) ∈ L := by
  induction L with
  | nil => simp [lkL] at h
  | cons a r ih =>
    obtain ⟨j, w⟩ := a
    unfold lkL at h
    cases hb : Nat.beq j i with
    | true =>
      simp only [hb] at h
      cases h
      rw [Nat.eq_of_beq_eq_true hb]
      exact List.mem_cons_self
    | false =>
      simp only [hb] at h
      exact List.mem_cons_of_mem _ (ih h)
theorem lv_of {ad : Nat → Nat} {ls : Array Slot} {nL : Nat} {L : Lc} {i : Nat} {v : Value} (h : lv_has ls nL (L.map (cvl ad))) (hl : lkL L i = some v) : ls[i]? = some (.val (cv ad v)) := h.2.2 (cvl ad (i, v)) (List.mem_map.mpr ⟨_, lkL_mem hl, rfl⟩)
def insL (L : Lc) (i : Nat) (v : Value) : Lc := match L with
  | [] => [(i, v)]
  | (j, w) :: r => match Nat.blt j i with
    | true => (j, w) :: insL r i v
    | false => (i, v) :: (j, w) :: r
theorem insL_mem {L : Lc} {i : Nat} {v : Value} {q : Nat × Value} (h : q ∈ insL L i v) : q = (i, v) ∨ q ∈ L := by
  induction L with
  | nil => simpa [insL] using h
  | cons a r ih =>
    obtain ⟨j, w⟩ := a
    unfold insL at h
    cases hb : Nat.blt j i with
    | true =>
      simp only [hb] at h
      rcases List.mem_cons.mp h with h | h
      · exact Or.inr (h ▸ List.mem_cons_self)
      · exact (ih h).imp id (List.mem_cons_of_mem _)
    | false =>
      simp only [hb] at h
      rcases List.mem_cons.mp h with h | h
      · exact Or.inl h
      · exact Or.inr h
/-- what a store of one slot leaves -/
def del1 (L : Lc) (i : Nat) : Lc := match L with
  | [] => []
  | (j, w) :: r => match Nat.beq j i with
    | true => del1 r i
    | false => match Nat.beq (j + 1) i with
      | false => (j, w) :: del1 r i
      | true => match Nat.beq w.category 2 with
        | true => del1 r i
        | false => (j, w) :: del1 r i
def del2 (L : Lc) (i : Nat) : Lc := match L with
  | [] => []
  | (j, w) :: r => match Nat.beq j i with
    | true => del2 r i
    | false => match Nat.beq j (i + 1) with
      | true => del2 r i
      | false => match Nat.beq (j + 1) i with
        | false => (j, w) :: del2 r i
        | true => match Nat.beq w.category 2 with
          | true => del2 r i
          | false => (j, w) :: del2 r i
theorem beq_f {a b : Nat} (h : Nat.beq a b = false) : a ≠ b := fun e => by rw [e, Nat.beq_refl] at h; cases h
theorem del1_mem {L : Lc} {i : Nat} {q : Nat × Value} (h : q ∈ del1 L i) : q ∈ L ∧ (!(q.1 == i) && !(q.1 + 1 == i && q.2.category == 2)) = true := by
  induction L with
  | nil => simp [del1] at h
  | cons a r ih =>
    obtain ⟨j, w⟩ := a
    unfold del1 at h
    cases hb : Nat.beq j i with
    | true =>
      simp only [hb] at h
      exact ⟨List.mem_cons_of_mem _ (ih h).1, (ih h).2⟩
    | false =>
      simp only [hb] at h
      cases hc : Nat.beq (j + 1) i with
      | false =>
        simp only [hc] at h
        rcases List.mem_cons.mp h with h | h
        · subst h
          exact ⟨List.mem_cons_self, by simp [beq_f hb, beq_f hc]⟩
        · exact ⟨List.mem_cons_of_mem _ (ih h).1, (ih h).2⟩
      | true =>
        simp only [hc] at h
        cases hd : Nat.beq w.category 2 with
        | true =>
          simp only [hd] at h
          exact ⟨List.mem_cons_of_mem _ (ih h).1, (ih h).2⟩
        | false =>
          simp only [hd] at h
          rcases List.mem_cons.mp h with h | h
          · subst h
            exact ⟨List.mem_cons_self, by simp [beq_f hb, beq_f hd]⟩
          · exact ⟨List.mem_cons_of_mem _ (ih h).1, (ih h).2⟩
theorem del2_mem {L : Lc} {i : Nat} {q : Nat × Value} (h : q ∈ del2 L i) : q ∈ L ∧ (!(q.1 == i) && (!(q.1 == i + 1) && !(q.1 + 1 == i && q.2.category == 2))) = true := by
  induction L with
  | nil => simp [del2] at h
  | cons a r ih =>
    obtain ⟨j, w⟩ := a
    unfold del2 at h
    cases hb : Nat.beq j i with
    | true =>
      simp only [hb] at h
      exact ⟨List.mem_cons_of_mem _ (ih h).1, (ih h).2⟩
    | false =>
      simp only [hb] at h
      cases hc : Nat.beq j (i + 1) with
      | true =>
        simp only [hc] at h
        exact ⟨List.mem_cons_of_mem _ (ih h).1, (ih h).2⟩
      | false =>
        simp only [hc] at h
        cases hc2 : Nat.beq (j + 1) i with
        | false =>
          simp only [hc2] at h
          rcases List.mem_cons.mp h with h | h
          · subst h
            exact ⟨List.mem_cons_self, by simp [beq_f hb, beq_f hc, beq_f hc2]⟩
          · exact ⟨List.mem_cons_of_mem _ (ih h).1, (ih h).2⟩
        | true =>
          simp only [hc2] at h
          cases hd : Nat.beq w.category 2 with
          | true =>
            simp only [hd] at h
            exact ⟨List.mem_cons_of_mem _ (ih h).1, (ih h).2⟩
          | false =>
            simp only [hd] at h
            rcases List.mem_cons.mp h with h | h
            · subst h
              exact ⟨List.mem_cons_self, by simp [beq_f hb, beq_f hc, beq_f hd]⟩
            · exact ⟨List.mem_cons_of_mem _ (ih h).1, (ih h).2⟩
def put1 (L : Lc) (i : Nat) (v : Value) : Lc := insL (del1 L i) i v
def put2 (L : Lc) (i : Nat) (v : Value) : Lc := insL (del2 L i) i v
theorem put1_lv {ad : Nat → Nat} {L : Lc} {i : Nat} {v : Value} {ls : Array Slot} {nL : Nat} (h : lv_has ls nL ((i, cv ad v) :: (L.map (cvl ad)).filter (fun q => !(q.1 == i) && !(q.1 + 1 == i && q.2.category == 2)))) : lv_has ls nL ((put1 L i v).map (cvl ad)) := by
  refine ⟨h.1, h.2.1, fun q hq => h.2.2 q ?_⟩
  obtain ⟨r, hr, rfl⟩ := List.mem_map.mp hq
  rcases insL_mem hr with hr | hr
  · subst hr; exact List.mem_cons_self
  · have h1 := del1_mem hr
    refine List.mem_cons_of_mem _ (List.mem_filter.mpr ⟨List.mem_map.mpr ⟨r, h1.1, rfl⟩, ?_⟩)
    have h2 := h1.2
    simp only [cvl, cv_cat] at h2 ⊢
    exact h2
theorem put2_lv {ad : Nat → Nat} {L : Lc} {i : Nat} {v : Value} {ls : Array Slot} {nL : Nat} (h : lv_has ls nL ((i, cv ad v) :: (L.map (cvl ad)).filter (fun q => !(q.1 == i) && (!(q.1 == i + 1) && !(q.1 + 1 == i && q.2.category == 2))))) : lv_has ls nL ((put2 L i v).map (cvl ad)) := by
  refine ⟨h.1, h.2.1, fun q hq => h.2.2 q ?_⟩
  obtain ⟨r, hr, rfl⟩ := List.mem_map.mp hq
  rcases insL_mem hr with hr | hr
  · subst hr; exact List.mem_cons_self
  · have h1 := del2_mem hr
    refine List.mem_cons_of_mem _ (List.mem_filter.mpr ⟨List.mem_map.mpr ⟨r, h1.1, rfl⟩, ?_⟩)
    have h2 := h1.2
    simp only [cvl, cv_cat] at h2 ⊢
    exact h2
def frc (L : Lc) : Option Lc := match L with
  | [] => some []
  | (j, v) :: r => match frc r with
    | some r' => some ((j, v) :: r')
    | none => none
theorem frc_eq {L L' : Lc} (h : frc L = some L') : L' = L := by
  induction L generalizing L' with
  | nil => simp [frc] at h; exact h
  | cons a r ih =>
    obtain ⟨j, v⟩ := a
    unfold frc at h
    cases hr : frc r with
    | none => simp [hr] at h
    | some r' =>
      simp [hr] at h
      rw [← h, ih hr]
end
section
section VS
variable {mt : MT} {sc : Option (Nat × (Nat → Int32))} {d nE : Nat} {Q : QT} {pc nx t ci k n : Nat} {c32 : Int32} {c64 : Int64} {L : Lc} {st : List Value} {I : I2} {J : J2} {F : F2}
theorem SF.lv {s : State} {D : va_G} {A : Nat → Prop} {n0 : Nat} {ad0 : Nat → Nat} {cA : Nat → ClassId} {ad : Nat → Nat} {H : Heap} {locs : List Loc} {ls : Array Slot} (S : SF mt nE s D A n0 ad0 cA ad H locs ls L n I J F) : lv_has ls mt.2.2.2.1 (L.map (cvl ad)) := S.2.2.2.2.2.2.2.2
theorem SF.re {s : State} {D : va_G} {A : Nat → Prop} {n0 : Nat} {ad0 : Nat → Nat} {cA : Nat → ClassId} {ad : Nat → Nat} {H : Heap} {locs : List Loc} {ls ls' : Array Slot} {L' : Lc} (S : SF mt nE s D A n0 ad0 cA ad H locs ls L n I J F) (h : lv_has ls' mt.2.2.2.1 (L'.map (cvl ad))) : SF mt nE s D A n0 ad0 cA ad H locs ls' L' n I J F := ⟨S.1, S.2.1, S.2.2.1, S.2.2.2.1, S.2.2.2.2.1, S.2.2.2.2.2.1, S.2.2.2.2.2.2.1, S.2.2.2.2.2.2.2.1, h⟩
theorem V.weak {L' : Lc} (h : V mt sc d nE Q pc L' st n I J F) (hs : ∀ q ∈ L', q ∈ L) : V mt sc d nE Q pc L st n I J F := by
  intro p l e R s m args below meth c D A n0 ad0 Qf X cA ad H locs ls S
  refine h p l e R s m args below meth c D A n0 ad0 Qf X cA ad H locs ls (S.re ⟨S.lv.1, S.lv.2.1, fun q hq => S.lv.2.2 q ?_⟩)
  obtain ⟨r, hr, rfl⟩ := List.mem_map.mp hq
  exact List.mem_map.mpr ⟨r, hs r hr, rfl⟩

theorem V_iconst {z : Int} (he : fE mt.2.2.2.2.2.2 pc = some (pc, .iconst z, nx, t, c32, c64, ci, k)) (kk : V mt sc d nE Q nx L (.int c32 :: st) n I J F) : V mt sc d nE Q pc L (st) n I J F := by
  intro p l e R s m args below meth c D A n0 ad0 Qf X cA ad H locs ls S
  obtain ⟨hd, hn, ho⟩ := row_of X.2.2.1 he rfl
  subst hn
  exact lv_iconst X.1 X.2.1 hd (of_decide_eq_true ho) (kk p l e R s m args below meth c D A n0 ad0 Qf X cA ad H locs ls S)
theorem V_bipush {z : Int} (he : fE mt.2.2.2.2.2.2 pc = some (pc, .bipush z, nx, t, c32, c64, ci, k)) (kk : V mt sc d nE Q nx L (.int c32 :: st) n I J F) : V mt sc d nE Q pc L (st) n I J F := by
  intro p l e R s m args below meth c D A n0 ad0 Qf X cA ad H locs ls S
  obtain ⟨hd, hn, ho⟩ := row_of X.2.2.1 he rfl
  subst hn
  exact lv_bipush X.1 X.2.1 hd (of_decide_eq_true ho) (kk p l e R s m args below meth c D A n0 ad0 Qf X cA ad H locs ls S)
theorem V_sipush {z : Int} (he : fE mt.2.2.2.2.2.2 pc = some (pc, .sipush z, nx, t, c32, c64, ci, k)) (kk : V mt sc d nE Q nx L (.int c32 :: st) n I J F) : V mt sc d nE Q pc L (st) n I J F := by
  intro p l e R s m args below meth c D A n0 ad0 Qf X cA ad H locs ls S
  obtain ⟨hd, hn, ho⟩ := row_of X.2.2.1 he rfl
  subst hn
  exact lv_sipush X.1 X.2.1 hd (of_decide_eq_true ho) (kk p l e R s m args below meth c D A n0 ad0 Qf X cA ad H locs ls S)
theorem V_lconst {z : Fin 2} (he : fE mt.2.2.2.2.2.2 pc = some (pc, .lconst z, nx, t, c32, c64, ci, k)) (kk : V mt sc d nE Q nx L (.long c64 :: st) n I J F) : V mt sc d nE Q pc L (st) n I J F := by
  intro p l e R s m args below meth c D A n0 ad0 Qf X cA ad H locs ls S
  obtain ⟨hd, hn, ho⟩ := row_of X.2.2.1 he rfl
  subst hn
  exact lv_lconst X.1 X.2.1 hd (of_decide_eq_true ho) (kk p l e R s m args below meth c D A n0 ad0 Qf X cA ad H locs ls S)
theorem V_ldc {z : Nat} (he : fE mt.2.2.2.2.2.2 pc = some (pc, .ldc z, nx, t, c32, c64, ci, k)) (hci : ci ≠ 99) (kk : V mt sc d nE Q nx L (.int c32 :: st) n I J F) : V mt sc d nE Q pc L (st) n I J F := by
  intro p l e R s m args below meth c D A n0 ad0 Qf X cA ad H locs ls S
  obtain ⟨hd, hn, ho⟩ := row_of X.2.2.1 he rfl
  subst hn
  exact lv_ldc X.1 X.2.1 X.2.2.2.2.2.2.1 (X.2.2.2.2.2.2.2.2.1 _ (gAt_mem (by simpa [okI, hci] using ho))) hd (kk p l e R s m args below meth c D A n0 ad0 Qf X cA ad H locs ls S)
theorem V_ldc_w {z : Nat} (he : fE mt.2.2.2.2.2.2 pc = some (pc, .ldc_w z, nx, t, c32, c64, ci, k)) (kk : V mt sc d nE Q nx L (.int c32 :: st) n I J F) : V mt sc d nE Q pc L (st) n I J F := by
  intro p l e R s m args below meth c D A n0 ad0 Qf X cA ad H locs ls S
  obtain ⟨hd, hn, ho⟩ := row_of X.2.2.1 he rfl
  subst hn
  exact lv_ldcw X.1 X.2.1 X.2.2.2.2.2.2.1 (X.2.2.2.2.2.2.2.2.1 _ (gAt_mem ho)) hd (kk p l e R s m args below meth c D A n0 ad0 Qf X cA ad H locs ls S)
theorem V_ldc2_w {z : Nat} (he : fE mt.2.2.2.2.2.2 pc = some (pc, .ldc2_w z, nx, t, c32, c64, ci, k)) (kk : V mt sc d nE Q nx L (.long c64 :: st) n I J F) : V mt sc d nE Q pc L (st) n I J F := by
  intro p l e R s m args below meth c D A n0 ad0 Qf X cA ad H locs ls S
  obtain ⟨hd, hn, ho⟩ := row_of X.2.2.1 he rfl
  subst hn
  exact lv_ldc2 X.1 X.2.1 X.2.2.2.2.2.2.1 (X.2.2.2.2.2.2.2.2.1 _ (gAt_mem ho)) hd (kk p l e R s m args below meth c D A n0 ad0 Qf X cA ad H locs ls S)
theorem V_iload_n {z : Fin 4} {x : Int32} (he : fE mt.2.2.2.2.2.2 pc = some (pc, .iload_n z, nx, t, c32, c64, ci, k)) (hl : lkL L k = some (.int x)) (kk : V mt sc d nE Q nx L (.int x :: st) n I J F) : V mt sc d nE Q pc L (st) n I J F := by
  intro p l e R s m args below meth c D A n0 ad0 Qf X cA ad H locs ls S
  obtain ⟨hd, hn, ho⟩ := row_of X.2.2.1 he rfl
  subst hn
  exact lv_iload_n X.1 X.2.1 hd (of_decide_eq_true ho) (lv_of S.lv hl) (kk p l e R s m args below meth c D A n0 ad0 Qf X cA ad H locs ls S)
theorem V_iload {z : Nat} {x : Int32} (he : fE mt.2.2.2.2.2.2 pc = some (pc, .iload z, nx, t, c32, c64, ci, k)) (hl : lkL L k = some (.int x)) (kk : V mt sc d nE Q nx L (.int x :: st) n I J F) : V mt sc d nE Q pc L (st) n I J F := by
  intro p l e R s m args below meth c D A n0 ad0 Qf X cA ad H locs ls S
  obtain ⟨hd, hn, ho⟩ := row_of X.2.2.1 he rfl
  subst hn
  exact lv_iload X.1 X.2.1 hd (by rw [show z = k from of_decide_eq_true ho]; exact lv_of S.lv hl) (kk p l e R s m args below meth c D A n0 ad0 Qf X cA ad H locs ls S)
theorem V_istore_n {z : Fin 4} {x : Int32} (he : fE mt.2.2.2.2.2.2 pc = some (pc, .istore_n z, nx, t, c32, c64, ci, k)) (kk : V mt sc d nE Q nx (put1 L k (.int x)) st n I J F) : V mt sc d nE Q pc L (.int x :: st) n I J F := by
  intro p l e R s m args below meth c D A n0 ad0 Qf X cA ad H locs ls S
  obtain ⟨hd, hn, ho⟩ := row_of X.2.2.1 he rfl
  subst hn
  simp only [okI, Bool.and_eq_true, decide_eq_true_eq] at ho
  obtain ⟨ho1, ho2⟩ := ho
  subst ho1
  exact lv_istore_n X.1 X.2.1 hd rfl S.lv ho2 rfl (fun ls' h' => kk p l e R s m args below meth c D A n0 ad0 Qf X cA ad H locs ls' (S.re (put1_lv (v := .int x) h')))
theorem V_istore {z : Nat} {x : Int32} (he : fE mt.2.2.2.2.2.2 pc = some (pc, .istore z, nx, t, c32, c64, ci, k)) (kk : V mt sc d nE Q nx (put1 L k (.int x)) st n I J F) : V mt sc d nE Q pc L (.int x :: st) n I J F := by
  intro p l e R s m args below meth c D A n0 ad0 Qf X cA ad H locs ls S
  obtain ⟨hd, hn, ho⟩ := row_of X.2.2.1 he rfl
  subst hn
  simp only [okI, Bool.and_eq_true, decide_eq_true_eq] at ho
  obtain ⟨ho1, ho2⟩ := ho
  subst ho1
  exact lv_istore X.1 X.2.1 hd S.lv ho2 rfl (fun ls' h' => kk p l e R s m args below meth c D A n0 ad0 Qf X cA ad H locs ls' (S.re (put1_lv (v := .int x) h')))
theorem V_lload_n {z : Fin 4} {x : Int64} (he : fE mt.2.2.2.2.2.2 pc = some (pc, .lload_n z, nx, t, c32, c64, ci, k)) (hl : lkL L k = some (.long x)) (kk : V mt sc d nE Q nx L (.long x :: st) n I J F) : V mt sc d nE Q pc L (st) n I J F := by
  intro p l e R s m args below meth c D A n0 ad0 Qf X cA ad H locs ls S
  obtain ⟨hd, hn, ho⟩ := row_of X.2.2.1 he rfl
  subst hn
  exact lv_lload_n X.1 X.2.1 hd (of_decide_eq_true ho) (lv_of S.lv hl) (kk p l e R s m args below meth c D A n0 ad0 Qf X cA ad H locs ls S)
theorem V_lload {z : Nat} {x : Int64} (he : fE mt.2.2.2.2.2.2 pc = some (pc, .lload z, nx, t, c32, c64, ci, k)) (hl : lkL L k = some (.long x)) (kk : V mt sc d nE Q nx L (.long x :: st) n I J F) : V mt sc d nE Q pc L (st) n I J F := by
  intro p l e R s m args below meth c D A n0 ad0 Qf X cA ad H locs ls S
  obtain ⟨hd, hn, ho⟩ := row_of X.2.2.1 he rfl
  subst hn
  exact lv_lload X.1 X.2.1 hd (by rw [show z = k from of_decide_eq_true ho]; exact lv_of S.lv hl) (kk p l e R s m args below meth c D A n0 ad0 Qf X cA ad H locs ls S)
theorem V_lstore_n {z : Fin 4} {x : Int64} (he : fE mt.2.2.2.2.2.2 pc = some (pc, .lstore_n z, nx, t, c32, c64, ci, k)) (kk : V mt sc d nE Q nx (put2 L k (.long x)) st n I J F) : V mt sc d nE Q pc L (.long x :: st) n I J F := by
  intro p l e R s m args below meth c D A n0 ad0 Qf X cA ad H locs ls S
  obtain ⟨hd, hn, ho⟩ := row_of X.2.2.1 he rfl
  subst hn
  simp only [okI, Bool.and_eq_true, decide_eq_true_eq] at ho
  obtain ⟨ho1, ho2⟩ := ho
  subst ho1
  exact lv_lstore_n X.1 X.2.1 hd rfl S.lv ho2 rfl (fun ls' h' => kk p l e R s m args below meth c D A n0 ad0 Qf X cA ad H locs ls' (S.re (put2_lv (v := .long x) h')))
theorem V_lstore {z : Nat} {x : Int64} (he : fE mt.2.2.2.2.2.2 pc = some (pc, .lstore z, nx, t, c32, c64, ci, k)) (kk : V mt sc d nE Q nx (put2 L k (.long x)) st n I J F) : V mt sc d nE Q pc L (.long x :: st) n I J F := by
  intro p l e R s m args below meth c D A n0 ad0 Qf X cA ad H locs ls S
  obtain ⟨hd, hn, ho⟩ := row_of X.2.2.1 he rfl
  subst hn
  simp only [okI, Bool.and_eq_true, decide_eq_true_eq] at ho
  obtain ⟨ho1, ho2⟩ := ho
  subst ho1
  exact lv_lstore X.1 X.2.1 hd S.lv ho2 rfl (fun ls' h' => kk p l e R s m args below meth c D A n0 ad0 Qf X cA ad H locs ls' (S.re (put2_lv (v := .long x) h')))
theorem V_aload_n {z : Fin 4} {x : Nat} (he : fE mt.2.2.2.2.2.2 pc = some (pc, .aload_n z, nx, t, c32, c64, ci, k)) (hl : lkL L k = some (.ref x)) (kk : V mt sc d nE Q nx L (.ref x :: st) n I J F) : V mt sc d nE Q pc L (st) n I J F := by
  intro p l e R s m args below meth c D A n0 ad0 Qf X cA ad H locs ls S
  obtain ⟨hd, hn, ho⟩ := row_of X.2.2.1 he rfl
  subst hn
  exact lv_aload_n X.1 X.2.1 hd (of_decide_eq_true ho) (lv_of S.lv hl) (kk p l e R s m args below meth c D A n0 ad0 Qf X cA ad H locs ls S)
theorem V_aload {z : Nat} {x : Nat} (he : fE mt.2.2.2.2.2.2 pc = some (pc, .aload z, nx, t, c32, c64, ci, k)) (hl : lkL L k = some (.ref x)) (kk : V mt sc d nE Q nx L (.ref x :: st) n I J F) : V mt sc d nE Q pc L (st) n I J F := by
  intro p l e R s m args below meth c D A n0 ad0 Qf X cA ad H locs ls S
  obtain ⟨hd, hn, ho⟩ := row_of X.2.2.1 he rfl
  subst hn
  exact lv_aload X.1 X.2.1 hd (by rw [show z = k from of_decide_eq_true ho]; exact lv_of S.lv hl) (kk p l e R s m args below meth c D A n0 ad0 Qf X cA ad H locs ls S)
theorem V_astore_n {z : Fin 4} {x : Nat} (he : fE mt.2.2.2.2.2.2 pc = some (pc, .astore_n z, nx, t, c32, c64, ci, k)) (kk : V mt sc d nE Q nx (put1 L k (.ref x)) st n I J F) : V mt sc d nE Q pc L (.ref x :: st) n I J F := by
  intro p l e R s m args below meth c D A n0 ad0 Qf X cA ad H locs ls S
  obtain ⟨hd, hn, ho⟩ := row_of X.2.2.1 he rfl
  subst hn
  simp only [okI, Bool.and_eq_true, decide_eq_true_eq] at ho
  obtain ⟨ho1, ho2⟩ := ho
  subst ho1
  exact lv_astore_n X.1 X.2.1 hd rfl S.lv ho2 rfl (fun ls' h' => kk p l e R s m args below meth c D A n0 ad0 Qf X cA ad H locs ls' (S.re (put1_lv (v := .ref x) h')))
theorem V_astore {z : Nat} {x : Nat} (he : fE mt.2.2.2.2.2.2 pc = some (pc, .astore z, nx, t, c32, c64, ci, k)) (kk : V mt sc d nE Q nx (put1 L k (.ref x)) st n I J F) : V mt sc d nE Q pc L (.ref x :: st) n I J F := by
  intro p l e R s m args below meth c D A n0 ad0 Qf X cA ad H locs ls S
  obtain ⟨hd, hn, ho⟩ := row_of X.2.2.1 he rfl
  subst hn
  simp only [okI, Bool.and_eq_true, decide_eq_true_eq] at ho
  obtain ⟨ho1, ho2⟩ := ho
  subst ho1
  exact lv_astore X.1 X.2.1 hd S.lv ho2 rfl (fun ls' h' => kk p l e R s m args below meth c D A n0 ad0 Qf X cA ad H locs ls' (S.re (put1_lv (v := .ref x) h')))
theorem lk_place {L : Lc} {i : Nat} {x : Int32} {ad : Nat → Nat} (h : lkL L i = some (.int x)) : ∃ j : Nat, (L.map (cvl ad))[j]? = some (i, Value.int x) := by
  obtain ⟨j, hj⟩ := List.getElem?_of_mem (lkL_mem h)
  exact ⟨j, by rw [List.getElem?_map, hj]; rfl⟩
theorem V_iinc {z : Nat} {w : Int} {x : Int32} (he : fE mt.2.2.2.2.2.2 pc = some (pc, .iinc z w, nx, t, c32, c64, ci, k)) (hl : lkL L z = some (.int x)) (kk : V mt sc d nE Q nx (put1 L z (.int (x + c32))) st n I J F) : V mt sc d nE Q pc L st n I J F := by
  intro p l e R s m args below meth c D A n0 ad0 Qf X cA ad H locs ls S
  obtain ⟨hd, hn, ho⟩ := row_of X.2.2.1 he rfl
  subst hn
  simp only [okI, Bool.and_eq_true, decide_eq_true_eq] at ho
  obtain ⟨ho1, ho2⟩ := ho
  obtain ⟨j, hj⟩ := lk_place (ad := ad) hl
  exact lv_iinc (v := x + c32) X.1 X.2.1 hd S.lv hj (by rw [ho1]) ho2 rfl (fun ls' h' => kk p l e R s m args below meth c D A n0 ad0 Qf X cA ad H locs ls' (S.re (put1_lv (v := .int (x + c32)) h')))
theorem V_iadd {x y : Int32} (he : fE mt.2.2.2.2.2.2 pc = some (pc, .iadd, nx, t, c32, c64, ci, k)) (kk : V mt sc d nE Q nx L (.int (x + y) :: st) n I J F) : V mt sc d nE Q pc L (.int y :: .int x :: st) n I J F := by
  intro p l e R s m args below meth c D A n0 ad0 Qf X cA ad H locs ls S
  obtain ⟨hd, hn, ho⟩ := row_of X.2.2.1 he rfl
  subst hn
  exact lv_iadd X.1 X.2.1 hd (kk p l e R s m args below meth c D A n0 ad0 Qf X cA ad H locs ls S)
theorem V_isub {x y : Int32} (he : fE mt.2.2.2.2.2.2 pc = some (pc, .isub, nx, t, c32, c64, ci, k)) (kk : V mt sc d nE Q nx L (.int (x - y) :: st) n I J F) : V mt sc d nE Q pc L (.int y :: .int x :: st) n I J F := by
  intro p l e R s m args below meth c D A n0 ad0 Qf X cA ad H locs ls S
  obtain ⟨hd, hn, ho⟩ := row_of X.2.2.1 he rfl
  subst hn
  exact lv_isub X.1 X.2.1 hd (kk p l e R s m args below meth c D A n0 ad0 Qf X cA ad H locs ls S)
theorem V_imul {x y : Int32} (he : fE mt.2.2.2.2.2.2 pc = some (pc, .imul, nx, t, c32, c64, ci, k)) (kk : V mt sc d nE Q nx L (.int (x * y) :: st) n I J F) : V mt sc d nE Q pc L (.int y :: .int x :: st) n I J F := by
  intro p l e R s m args below meth c D A n0 ad0 Qf X cA ad H locs ls S
  obtain ⟨hd, hn, ho⟩ := row_of X.2.2.1 he rfl
  subst hn
  exact lv_imul X.1 X.2.1 hd (kk p l e R s m args below meth c D A n0 ad0 Qf X cA ad H locs ls S)
theorem V_iand {x y : Int32} (he : fE mt.2.2.2.2.2.2 pc = some (pc, .iand, nx, t, c32, c64, ci, k)) (kk : V mt sc d nE Q nx L (.int (x &&& y) :: st) n I J F) : V mt sc d nE Q pc L (.int y :: .int x :: st) n I J F := by
  intro p l e R s m args below meth c D A n0 ad0 Qf X cA ad H locs ls S
  obtain ⟨hd, hn, ho⟩ := row_of X.2.2.1 he rfl
  subst hn
  exact lv_iand X.1 X.2.1 hd (kk p l e R s m args below meth c D A n0 ad0 Qf X cA ad H locs ls S)
theorem V_ior {x y : Int32} (he : fE mt.2.2.2.2.2.2 pc = some (pc, .ior, nx, t, c32, c64, ci, k)) (kk : V mt sc d nE Q nx L (.int (x ||| y) :: st) n I J F) : V mt sc d nE Q pc L (.int y :: .int x :: st) n I J F := by
  intro p l e R s m args below meth c D A n0 ad0 Qf X cA ad H locs ls S
  obtain ⟨hd, hn, ho⟩ := row_of X.2.2.1 he rfl
  subst hn
  exact lv_ior X.1 X.2.1 hd (kk p l e R s m args below meth c D A n0 ad0 Qf X cA ad H locs ls S)
theorem V_ixor {x y : Int32} (he : fE mt.2.2.2.2.2.2 pc = some (pc, .ixor, nx, t, c32, c64, ci, k)) (kk : V mt sc d nE Q nx L (.int (x ^^^ y) :: st) n I J F) : V mt sc d nE Q pc L (.int y :: .int x :: st) n I J F := by
  intro p l e R s m args below meth c D A n0 ad0 Qf X cA ad H locs ls S
  obtain ⟨hd, hn, ho⟩ := row_of X.2.2.1 he rfl
  subst hn
  exact lv_ixor X.1 X.2.1 hd (kk p l e R s m args below meth c D A n0 ad0 Qf X cA ad H locs ls S)
theorem V_ishl {x y : Int32} (he : fE mt.2.2.2.2.2.2 pc = some (pc, .ishl, nx, t, c32, c64, ci, k)) (kk : V mt sc d nE Q nx L (.int (x <<< (y &&& 31)) :: st) n I J F) : V mt sc d nE Q pc L (.int y :: .int x :: st) n I J F := by
  intro p l e R s m args below meth c D A n0 ad0 Qf X cA ad H locs ls S
  obtain ⟨hd, hn, ho⟩ := row_of X.2.2.1 he rfl
  subst hn
  exact lv_ishl X.1 X.2.1 hd (kk p l e R s m args below meth c D A n0 ad0 Qf X cA ad H locs ls S)
theorem V_ishr {x y : Int32} (he : fE mt.2.2.2.2.2.2 pc = some (pc, .ishr, nx, t, c32, c64, ci, k)) (kk : V mt sc d nE Q nx L (.int (x >>> (y &&& 31)) :: st) n I J F) : V mt sc d nE Q pc L (.int y :: .int x :: st) n I J F := by
  intro p l e R s m args below meth c D A n0 ad0 Qf X cA ad H locs ls S
  obtain ⟨hd, hn, ho⟩ := row_of X.2.2.1 he rfl
  subst hn
  exact lv_ishr X.1 X.2.1 hd (kk p l e R s m args below meth c D A n0 ad0 Qf X cA ad H locs ls S)
theorem V_ladd {x y : Int64} (he : fE mt.2.2.2.2.2.2 pc = some (pc, .ladd, nx, t, c32, c64, ci, k)) (kk : V mt sc d nE Q nx L (.long (x + y) :: st) n I J F) : V mt sc d nE Q pc L (.long y :: .long x :: st) n I J F := by
  intro p l e R s m args below meth c D A n0 ad0 Qf X cA ad H locs ls S
  obtain ⟨hd, hn, ho⟩ := row_of X.2.2.1 he rfl
  subst hn
  exact lv_ladd X.1 X.2.1 hd (kk p l e R s m args below meth c D A n0 ad0 Qf X cA ad H locs ls S)
theorem V_lsub {x y : Int64} (he : fE mt.2.2.2.2.2.2 pc = some (pc, .lsub, nx, t, c32, c64, ci, k)) (kk : V mt sc d nE Q nx L (.long (x - y) :: st) n I J F) : V mt sc d nE Q pc L (.long y :: .long x :: st) n I J F := by
  intro p l e R s m args below meth c D A n0 ad0 Qf X cA ad H locs ls S
  obtain ⟨hd, hn, ho⟩ := row_of X.2.2.1 he rfl
  subst hn
  exact lv_lsub X.1 X.2.1 hd (kk p l e R s m args below meth c D A n0 ad0 Qf X cA ad H locs ls S)
theorem V_lmul {x y : Int64} (he : fE mt.2.2.2.2.2.2 pc = some (pc, .lmul, nx, t, c32, c64, ci, k)) (kk : V mt sc d nE Q nx L (.long (x * y) :: st) n I J F) : V mt sc d nE Q pc L (.long y :: .long x :: st) n I J F := by
  intro p l e R s m args below meth c D A n0 ad0 Qf X cA ad H locs ls S
  obtain ⟨hd, hn, ho⟩ := row_of X.2.2.1 he rfl
  subst hn
  exact lv_lmul X.1 X.2.1 hd (kk p l e R s m args below meth c D A n0 ad0 Qf X cA ad H locs ls S)
def iushrV (x y : Int32) : Int32 := (x.toUInt32 >>> (y.toUInt32 &&& Int32.toUInt32 31)).toInt32
def lushrV (x : Int64) (y : Int32) : Int64 := (x.toUInt64 >>> (y.toInt64.toUInt64 &&& Int64.toUInt64 63)).toInt64
def i2bV (x : Int32) : Int32 := x.toInt8.toInt32
def i2sV (x : Int32) : Int32 := x.toInt16.toInt32
def i2cV (x : Int32) : Int32 := (x.toUInt32 % 65536).toInt32
theorem V_ineg {x : Int32} (he : fE mt.2.2.2.2.2.2 pc = some (pc, .ineg, nx, t, c32, c64, ci, k)) (kk : V mt sc d nE Q nx L (.int (-x) :: st) n I J F) : V mt sc d nE Q pc L (.int x :: st) n I J F := by
  intro p l e R s m args below meth c D A n0 ad0 Qf X cA ad H locs ls S
  obtain ⟨hd, hn, ho⟩ := row_of X.2.2.1 he rfl
  subst hn
  exact lv_ineg X.1 X.2.1 hd (kk p l e R s m args below meth c D A n0 ad0 Qf X cA ad H locs ls S)
theorem V_iushr {x y : Int32} (he : fE mt.2.2.2.2.2.2 pc = some (pc, .iushr, nx, t, c32, c64, ci, k)) (kk : V mt sc d nE Q nx L (.int (iushrV x y) :: st) n I J F) : V mt sc d nE Q pc L (.int y :: .int x :: st) n I J F := by
  intro p l e R s m args below meth c D A n0 ad0 Qf X cA ad H locs ls S
  obtain ⟨hd, hn, ho⟩ := row_of X.2.2.1 he rfl
  subst hn
  exact lv_iushr X.1 X.2.1 hd rfl (kk p l e R s m args below meth c D A n0 ad0 Qf X cA ad H locs ls S)
theorem V_lushr {x : Int64} {y : Int32} (he : fE mt.2.2.2.2.2.2 pc = some (pc, .lushr, nx, t, c32, c64, ci, k)) (kk : V mt sc d nE Q nx L (.long (lushrV x y) :: st) n I J F) : V mt sc d nE Q pc L (.int y :: .long x :: st) n I J F := by
  intro p l e R s m args below meth c D A n0 ad0 Qf X cA ad H locs ls S
  obtain ⟨hd, hn, ho⟩ := row_of X.2.2.1 he rfl
  subst hn
  exact lv_lushr X.1 X.2.1 hd rfl (kk p l e R s m args below meth c D A n0 ad0 Qf X cA ad H locs ls S)
theorem V_i2l {x : Int32} (he : fE mt.2.2.2.2.2.2 pc = some (pc, .i2l, nx, t, c32, c64, ci, k)) (kk : V mt sc d nE Q nx L (.long (x.toInt64) :: st) n I J F) : V mt sc d nE Q pc L (.int x :: st) n I J F := by
  intro p l e R s m args below meth c D A n0 ad0 Qf X cA ad H locs ls S
  obtain ⟨hd, hn, ho⟩ := row_of X.2.2.1 he rfl
  subst hn
  exact lv_i2l X.1 X.2.1 hd rfl (kk p l e R s m args below meth c D A n0 ad0 Qf X cA ad H locs ls S)
theorem V_l2i {x : Int64} (he : fE mt.2.2.2.2.2.2 pc = some (pc, .l2i, nx, t, c32, c64, ci, k)) (kk : V mt sc d nE Q nx L (.int (x.toInt32) :: st) n I J F) : V mt sc d nE Q pc L (.long x :: st) n I J F := by
  intro p l e R s m args below meth c D A n0 ad0 Qf X cA ad H locs ls S
  obtain ⟨hd, hn, ho⟩ := row_of X.2.2.1 he rfl
  subst hn
  exact lv_l2i X.1 X.2.1 hd rfl (kk p l e R s m args below meth c D A n0 ad0 Qf X cA ad H locs ls S)
theorem V_i2b {x : Int32} (he : fE mt.2.2.2.2.2.2 pc = some (pc, .i2b, nx, t, c32, c64, ci, k)) (kk : V mt sc d nE Q nx L (.int (i2bV x) :: st) n I J F) : V mt sc d nE Q pc L (.int x :: st) n I J F := by
  intro p l e R s m args below meth c D A n0 ad0 Qf X cA ad H locs ls S
  obtain ⟨hd, hn, ho⟩ := row_of X.2.2.1 he rfl
  subst hn
  exact lv_i2b X.1 X.2.1 hd rfl (kk p l e R s m args below meth c D A n0 ad0 Qf X cA ad H locs ls S)
theorem V_i2s {x : Int32} (he : fE mt.2.2.2.2.2.2 pc = some (pc, .i2s, nx, t, c32, c64, ci, k)) (kk : V mt sc d nE Q nx L (.int (i2sV x) :: st) n I J F) : V mt sc d nE Q pc L (.int x :: st) n I J F := by
  intro p l e R s m args below meth c D A n0 ad0 Qf X cA ad H locs ls S
  obtain ⟨hd, hn, ho⟩ := row_of X.2.2.1 he rfl
  subst hn
  exact lv_i2s X.1 X.2.1 hd rfl (kk p l e R s m args below meth c D A n0 ad0 Qf X cA ad H locs ls S)
theorem V_i2c {x : Int32} (he : fE mt.2.2.2.2.2.2 pc = some (pc, .i2c, nx, t, c32, c64, ci, k)) (kk : V mt sc d nE Q nx L (.int (i2cV x) :: st) n I J F) : V mt sc d nE Q pc L (.int x :: st) n I J F := by
  intro p l e R s m args below meth c D A n0 ad0 Qf X cA ad H locs ls S
  obtain ⟨hd, hn, ho⟩ := row_of X.2.2.1 he rfl
  subst hn
  exact lv_i2c X.1 X.2.1 hd rfl (kk p l e R s m args below meth c D A n0 ad0 Qf X cA ad H locs ls S)
theorem V_lcmp {x y : Int64} (he : fE mt.2.2.2.2.2.2 pc = some (pc, .lcmp, nx, t, c32, c64, ci, k)) (kk : V mt sc d nE Q nx L (.int (lg_cmp x y) :: st) n I J F) : V mt sc d nE Q pc L (.long y :: .long x :: st) n I J F := by
  intro p l e R s m args below meth c D A n0 ad0 Qf X cA ad H locs ls S
  obtain ⟨hd, hn, ho⟩ := row_of X.2.2.1 he rfl
  subst hn
  exact W.lcmp X.1 X.2.1 hd (kk p l e R s m args below meth c D A n0 ad0 Qf X cA ad H locs ls S)
theorem V_dup {v : Value} (he : fE mt.2.2.2.2.2.2 pc = some (pc, .dup, nx, t, c32, c64, ci, k)) (h1 : v.category = 1) (kk : V mt sc d nE Q nx L (v :: v :: st) n I J F) : V mt sc d nE Q pc L (v :: st) n I J F := by
  intro p l e R s m args below meth c D A n0 ad0 Qf X cA ad H locs ls S
  obtain ⟨hd, hn, ho⟩ := row_of X.2.2.1 he rfl
  subst hn
  exact lv_dup X.1 X.2.1 hd ((cv_cat ad v).trans h1) (kk p l e R s m args below meth c D A n0 ad0 Qf X cA ad H locs ls S)
theorem V_pop {v : Value} (he : fE mt.2.2.2.2.2.2 pc = some (pc, .pop, nx, t, c32, c64, ci, k)) (h1 : v.category = 1) (kk : V mt sc d nE Q nx L (st) n I J F) : V mt sc d nE Q pc L (v :: st) n I J F := by
  intro p l e R s m args below meth c D A n0 ad0 Qf X cA ad H locs ls S
  obtain ⟨hd, hn, ho⟩ := row_of X.2.2.1 he rfl
  subst hn
  exact lv_pop X.1 X.2.1 hd ((cv_cat ad v).trans h1) (kk p l e R s m args below meth c D A n0 ad0 Qf X cA ad H locs ls S)
theorem V_dup_x1 {v w : Value} (he : fE mt.2.2.2.2.2.2 pc = some (pc, .dup_x1, nx, t, c32, c64, ci, k)) (h1 : v.category = 1) (h2 : w.category = 1) (kk : V mt sc d nE Q nx L (v :: w :: v :: st) n I J F) : V mt sc d nE Q pc L (v :: w :: st) n I J F := by
  intro p l e R s m args below meth c D A n0 ad0 Qf X cA ad H locs ls S
  obtain ⟨hd, hn, ho⟩ := row_of X.2.2.1 he rfl
  subst hn
  exact lv_dup_x1 X.1 X.2.1 hd ((cv_cat ad v).trans h1) ((cv_cat ad w).trans h2) (kk p l e R s m args below meth c D A n0 ad0 Qf X cA ad H locs ls S)
theorem V_dup2 {v w : Value} (he : fE mt.2.2.2.2.2.2 pc = some (pc, .dup2, nx, t, c32, c64, ci, k)) (h1 : v.category = 1) (h2 : w.category = 1) (kk : V mt sc d nE Q nx L (v :: w :: v :: w :: st) n I J F) : V mt sc d nE Q pc L (v :: w :: st) n I J F := by
  intro p l e R s m args below meth c D A n0 ad0 Qf X cA ad H locs ls S
  obtain ⟨hd, hn, ho⟩ := row_of X.2.2.1 he rfl
  subst hn
  exact lv_dup2_11 X.1 X.2.1 hd ((cv_cat ad v).trans h1) ((cv_cat ad w).trans h2) (kk p l e R s m args below meth c D A n0 ad0 Qf X cA ad H locs ls S)
theorem V_goto {z : Int} (he : fE mt.2.2.2.2.2.2 pc = some (pc, .goto z, nx, t, c32, c64, ci, k)) (kk : V mt sc d nE Q t L st n I J F) : V mt sc d nE Q pc L st n I J F := by
  intro p l e R s m args below meth c D A n0 ad0 Qf X cA ad H locs ls S
  obtain ⟨hd, hn, ho⟩ := row_of X.2.2.1 he rfl
  subst hn
  exact lv_goto X.1 X.2.1 hd (of_decide_eq_true ho) (kk p l e R s m args below meth c D A n0 ad0 Qf X cA ad H locs ls S)
theorem V_idiv {x y : Int32} (he : fE mt.2.2.2.2.2.2 pc = some (pc, .idiv, nx, t, c32, c64, ci, k)) (h1 : ¬ y = 0) (kk : V mt sc d nE Q nx L (.int (x / y) :: st) n I J F) : V mt sc d nE Q pc L (.int y :: .int x :: st) n I J F := by
  intro p l e R s m args below meth c D A n0 ad0 Qf X cA ad H locs ls S
  obtain ⟨hd, hn, ho⟩ := row_of X.2.2.1 he rfl
  subst hn
  exact lv_idiv X.1 X.2.1 hd h1 (kk p l e R s m args below meth c D A n0 ad0 Qf X cA ad H locs ls S)

theorem V_irem0 {x y : Int32} (he : fE mt.2.2.2.2.2.2 pc = some (pc, .irem, nx, t, c32, c64, ci, k)) (h1 : ¬ y = 0) (kk : V mt sc d nE Q nx L (.int (x - x / y * y) :: st) n I J F) : V mt sc d nE Q pc L (.int y :: .int x :: st) n I J F := by
  intro p l e R s m args below meth c D A n0 ad0 Qf X cA ad H locs ls S
  obtain ⟨hd, hn, ho⟩ := row_of X.2.2.1 he rfl
  subst hn
  exact lv_irem X.1 X.2.1 hd h1 (kk p l e R s m args below meth c D A n0 ad0 Qf X cA ad H locs ls S)
theorem V_ldiv {x y : Int64} (he : fE mt.2.2.2.2.2.2 pc = some (pc, .ldiv, nx, t, c32, c64, ci, k)) (h1 : ¬ y = 0) (kk : V mt sc d nE Q nx L (.long (x / y) :: st) n I J F) : V mt sc d nE Q pc L (.long y :: .long x :: st) n I J F := by
  intro p l e R s m args below meth c D A n0 ad0 Qf X cA ad H locs ls S
  obtain ⟨hd, hn, ho⟩ := row_of X.2.2.1 he rfl
  subst hn
  exact lv_ldiv X.1 X.2.1 hd h1 (kk p l e R s m args below meth c D A n0 ad0 Qf X cA ad H locs ls S)
theorem V_lrem0 {x y : Int64} (he : fE mt.2.2.2.2.2.2 pc = some (pc, .lrem, nx, t, c32, c64, ci, k)) (h1 : ¬ y = 0) (kk : V mt sc d nE Q nx L (.long (x - x / y * y) :: st) n I J F) : V mt sc d nE Q pc L (.long y :: .long x :: st) n I J F := by
  intro p l e R s m args below meth c D A n0 ad0 Qf X cA ad H locs ls S
  obtain ⟨hd, hn, ho⟩ := row_of X.2.2.1 he rfl
  subst hn
  exact lv_lrem X.1 X.2.1 hd h1 (kk p l e R s m args below meth c D A n0 ad0 Qf X cA ad H locs ls S)
theorem V_if_eq {z : Int} {x : Int32} (he : fE mt.2.2.2.2.2.2 pc = some (pc, .ifCond .eq z, nx, t, c32, c64, ci, k)) (kt : x = 0 → V mt sc d nE Q t L st n I J F) (kf : ¬ x = 0 → V mt sc d nE Q nx L st n I J F) : V mt sc d nE Q pc L (.int x :: st) n I J F := by
  intro p l e R s m args below meth c D A n0 ad0 Qf X cA ad H locs ls S
  obtain ⟨hd, hn, ho⟩ := row_of X.2.2.1 he rfl
  subst hn
  exact lv_if_eq X.1 X.2.1 hd (of_decide_eq_true ho) (fun h => kt h p l e R s m args below meth c D A n0 ad0 Qf X cA ad H locs ls S) (fun h => kf h p l e R s m args below meth c D A n0 ad0 Qf X cA ad H locs ls S)
theorem V_icmp_eq {z : Int} {x y : Int32} (he : fE mt.2.2.2.2.2.2 pc = some (pc, .if_icmp .eq z, nx, t, c32, c64, ci, k)) (kt : x = y → V mt sc d nE Q t L st n I J F) (kf : ¬ x = y → V mt sc d nE Q nx L st n I J F) : V mt sc d nE Q pc L (.int y :: .int x :: st) n I J F := by
  intro p l e R s m args below meth c D A n0 ad0 Qf X cA ad H locs ls S
  obtain ⟨hd, hn, ho⟩ := row_of X.2.2.1 he rfl
  subst hn
  exact lv_icmp_eq X.1 X.2.1 hd (of_decide_eq_true ho) (fun h => kt h p l e R s m args below meth c D A n0 ad0 Qf X cA ad H locs ls S) (fun h => kf h p l e R s m args below meth c D A n0 ad0 Qf X cA ad H locs ls S)
theorem V_if_ne {z : Int} {x : Int32} (he : fE mt.2.2.2.2.2.2 pc = some (pc, .ifCond .ne z, nx, t, c32, c64, ci, k)) (kt : ¬ x = 0 → V mt sc d nE Q t L st n I J F) (kf : x = 0 → V mt sc d nE Q nx L st n I J F) : V mt sc d nE Q pc L (.int x :: st) n I J F := by
  intro p l e R s m args below meth c D A n0 ad0 Qf X cA ad H locs ls S
  obtain ⟨hd, hn, ho⟩ := row_of X.2.2.1 he rfl
  subst hn
  exact lv_if_ne X.1 X.2.1 hd (of_decide_eq_true ho) (fun h => kt h p l e R s m args below meth c D A n0 ad0 Qf X cA ad H locs ls S) (fun h => kf h p l e R s m args below meth c D A n0 ad0 Qf X cA ad H locs ls S)
theorem V_icmp_ne {z : Int} {x y : Int32} (he : fE mt.2.2.2.2.2.2 pc = some (pc, .if_icmp .ne z, nx, t, c32, c64, ci, k)) (kt : ¬ x = y → V mt sc d nE Q t L st n I J F) (kf : x = y → V mt sc d nE Q nx L st n I J F) : V mt sc d nE Q pc L (.int y :: .int x :: st) n I J F := by
  intro p l e R s m args below meth c D A n0 ad0 Qf X cA ad H locs ls S
  obtain ⟨hd, hn, ho⟩ := row_of X.2.2.1 he rfl
  subst hn
  exact lv_icmp_ne X.1 X.2.1 hd (of_decide_eq_true ho) (fun h => kt h p l e R s m args below meth c D A n0 ad0 Qf X cA ad H locs ls S) (fun h => kf h p l e R s m args below meth c D A n0 ad0 Qf X cA ad H locs ls S)
theorem V_if_lt {z : Int} {x : Int32} (he : fE mt.2.2.2.2.2.2 pc = some (pc, .ifCond .lt z, nx, t, c32, c64, ci, k)) (kt : x < 0 → V mt sc d nE Q t L st n I J F) (kf : ¬ x < 0 → V mt sc d nE Q nx L st n I J F) : V mt sc d nE Q pc L (.int x :: st) n I J F := by
  intro p l e R s m args below meth c D A n0 ad0 Qf X cA ad H locs ls S
  obtain ⟨hd, hn, ho⟩ := row_of X.2.2.1 he rfl
  subst hn
  exact lv_if_lt X.1 X.2.1 hd (of_decide_eq_true ho) (fun h => kt h p l e R s m args below meth c D A n0 ad0 Qf X cA ad H locs ls S) (fun h => kf h p l e R s m args below meth c D A n0 ad0 Qf X cA ad H locs ls S)
theorem V_icmp_lt {z : Int} {x y : Int32} (he : fE mt.2.2.2.2.2.2 pc = some (pc, .if_icmp .lt z, nx, t, c32, c64, ci, k)) (kt : x < y → V mt sc d nE Q t L st n I J F) (kf : ¬ x < y → V mt sc d nE Q nx L st n I J F) : V mt sc d nE Q pc L (.int y :: .int x :: st) n I J F := by
  intro p l e R s m args below meth c D A n0 ad0 Qf X cA ad H locs ls S
  obtain ⟨hd, hn, ho⟩ := row_of X.2.2.1 he rfl
  subst hn
  exact lv_icmp_lt X.1 X.2.1 hd (of_decide_eq_true ho) (fun h => kt h p l e R s m args below meth c D A n0 ad0 Qf X cA ad H locs ls S) (fun h => kf h p l e R s m args below meth c D A n0 ad0 Qf X cA ad H locs ls S)
theorem V_if_ge {z : Int} {x : Int32} (he : fE mt.2.2.2.2.2.2 pc = some (pc, .ifCond .ge z, nx, t, c32, c64, ci, k)) (kt : 0 ≤ x → V mt sc d nE Q t L st n I J F) (kf : ¬ 0 ≤ x → V mt sc d nE Q nx L st n I J F) : V mt sc d nE Q pc L (.int x :: st) n I J F := by
  intro p l e R s m args below meth c D A n0 ad0 Qf X cA ad H locs ls S
  obtain ⟨hd, hn, ho⟩ := row_of X.2.2.1 he rfl
  subst hn
  exact lv_if_ge X.1 X.2.1 hd (of_decide_eq_true ho) (fun h => kt h p l e R s m args below meth c D A n0 ad0 Qf X cA ad H locs ls S) (fun h => kf h p l e R s m args below meth c D A n0 ad0 Qf X cA ad H locs ls S)
theorem V_icmp_ge {z : Int} {x y : Int32} (he : fE mt.2.2.2.2.2.2 pc = some (pc, .if_icmp .ge z, nx, t, c32, c64, ci, k)) (kt : y ≤ x → V mt sc d nE Q t L st n I J F) (kf : ¬ y ≤ x → V mt sc d nE Q nx L st n I J F) : V mt sc d nE Q pc L (.int y :: .int x :: st) n I J F := by
  intro p l e R s m args below meth c D A n0 ad0 Qf X cA ad H locs ls S
  obtain ⟨hd, hn, ho⟩ := row_of X.2.2.1 he rfl
  subst hn
  exact lv_icmp_ge X.1 X.2.1 hd (of_decide_eq_true ho) (fun h => kt h p l e R s m args below meth c D A n0 ad0 Qf X cA ad H locs ls S) (fun h => kf h p l e R s m args below meth c D A n0 ad0 Qf X cA ad H locs ls S)
theorem V_if_gt {z : Int} {x : Int32} (he : fE mt.2.2.2.2.2.2 pc = some (pc, .ifCond .gt z, nx, t, c32, c64, ci, k)) (kt : 0 < x → V mt sc d nE Q t L st n I J F) (kf : ¬ 0 < x → V mt sc d nE Q nx L st n I J F) : V mt sc d nE Q pc L (.int x :: st) n I J F := by
  intro p l e R s m args below meth c D A n0 ad0 Qf X cA ad H locs ls S
  obtain ⟨hd, hn, ho⟩ := row_of X.2.2.1 he rfl
  subst hn
  exact lv_if_gt X.1 X.2.1 hd (of_decide_eq_true ho) (fun h => kt h p l e R s m args below meth c D A n0 ad0 Qf X cA ad H locs ls S) (fun h => kf h p l e R s m args below meth c D A n0 ad0 Qf X cA ad H locs ls S)
theorem V_icmp_gt {z : Int} {x y : Int32} (he : fE mt.2.2.2.2.2.2 pc = some (pc, .if_icmp .gt z, nx, t, c32, c64, ci, k)) (kt : y < x → V mt sc d nE Q t L st n I J F) (kf : ¬ y < x → V mt sc d nE Q nx L st n I J F) : V mt sc d nE Q pc L (.int y :: .int x :: st) n I J F := by
  intro p l e R s m args below meth c D A n0 ad0 Qf X cA ad H locs ls S
  obtain ⟨hd, hn, ho⟩ := row_of X.2.2.1 he rfl
  subst hn
  exact lv_icmp_gt X.1 X.2.1 hd (of_decide_eq_true ho) (fun h => kt h p l e R s m args below meth c D A n0 ad0 Qf X cA ad H locs ls S) (fun h => kf h p l e R s m args below meth c D A n0 ad0 Qf X cA ad H locs ls S)
theorem V_if_le {z : Int} {x : Int32} (he : fE mt.2.2.2.2.2.2 pc = some (pc, .ifCond .le z, nx, t, c32, c64, ci, k)) (kt : x ≤ 0 → V mt sc d nE Q t L st n I J F) (kf : ¬ x ≤ 0 → V mt sc d nE Q nx L st n I J F) : V mt sc d nE Q pc L (.int x :: st) n I J F := by
  intro p l e R s m args below meth c D A n0 ad0 Qf X cA ad H locs ls S
  obtain ⟨hd, hn, ho⟩ := row_of X.2.2.1 he rfl
  subst hn
  exact lv_if_le X.1 X.2.1 hd (of_decide_eq_true ho) (fun h => kt h p l e R s m args below meth c D A n0 ad0 Qf X cA ad H locs ls S) (fun h => kf h p l e R s m args below meth c D A n0 ad0 Qf X cA ad H locs ls S)
theorem V_icmp_le {z : Int} {x y : Int32} (he : fE mt.2.2.2.2.2.2 pc = some (pc, .if_icmp .le z, nx, t, c32, c64, ci, k)) (kt : x ≤ y → V mt sc d nE Q t L st n I J F) (kf : ¬ x ≤ y → V mt sc d nE Q nx L st n I J F) : V mt sc d nE Q pc L (.int y :: .int x :: st) n I J F := by
  intro p l e R s m args below meth c D A n0 ad0 Qf X cA ad H locs ls S
  obtain ⟨hd, hn, ho⟩ := row_of X.2.2.1 he rfl
  subst hn
  exact lv_icmp_le X.1 X.2.1 hd (of_decide_eq_true ho) (fun h => kt h p l e R s m args below meth c D A n0 ad0 Qf X cA ad H locs ls S) (fun h => kf h p l e R s m args below meth c D A n0 ad0 Qf X cA ad H locs ls S)
end VS
end
section
theorem uin0 : ∀ w ∈ u_ws RX0 TX0 13, w ∈ lw_tbl := by decide +kernel
theorem uin1 : ∀ w ∈ u_ws RX2 TX2 5, w ∈ lw_tbl := by decide +kernel
theorem uin2 : ∀ w ∈ u_ws RX3 TX3 7, w ∈ lw_tbl := by decide +kernel
theorem uin3 : ∀ w ∈ u_ws RX4 TX4 3, w ∈ lw_tbl := by decide +kernel
theorem uin4 : ∀ w ∈ u_ws RX5 TX5 5, w ∈ lw_tbl := by decide +kernel
theorem uin5 : ∀ w ∈ u_ws RX6 TX6 8, w ∈ lw_tbl := by decide +kernel
theorem uin6 : ∀ w ∈ u_ws RX7 TX7 55, w ∈ lw_tbl := by decide +kernel
theorem u_good (C : String) (T : u_T) (N : Nat) : ∀ w ∈ u_ws C T N, goodWord w = true := by
  intro w hw
  obtain ⟨k, -, rfl⟩ := List.mem_map.mp hw
  unfold u_lay
  split <;> rfl
theorem uwsT {ci : Nat} (h : ci < 7) : ∀ w ∈ u_ws (nCl ci).1 (nCl ci).2.1 (nCl ci).2.2, w ∈ tblG := by
  intro w hw
  refine List.mem_filter.mpr ⟨?_, u_good _ _ _ w hw⟩
  match ci, h, hw with
  | 0, _, hw => exact uin0 w hw
  | 1, _, hw => exact uin1 w hw
  | 2, _, hw => exact uin2 w hw
  | 3, _, hw => exact uin3 w hw
  | 4, _, hw => exact uin4 w hw
  | 5, _, hw => exact uin5 w hw
  | 6, _, hw => exact uin6 w hw
  | ci + 7, h, _ => omega
theorem nCl_get {ci : Nat} (h : ci < 7) : vwCl[ci]? = some ((nCl ci).1, (nCl ci).2.1, (nCl ci).2.2) := by
  match ci, h with
  | 0, _ => rfl
  | 1, _ => rfl
  | 2, _ => rfl
  | 3, _ => rfl
  | 4, _ => rfl
  | 5, _ => rfl
  | 6, _ => rfl
  | ci + 7, h => omega
theorem tyF_ok {ci : Nat} (h : ci < 7) : ∀ k, k < (nCl ci).2.2 → parseFieldDescriptor ((nCl ci).2.1 k).2.2.1 = some (tyF ci k) := by
  match ci, h with
  | 0, _ => exact tyX0_ok
  | 1, _ => exact tyX2_ok
  | 2, _ => exact tyX3_ok
  | 3, _ => exact tyX4_ok
  | 4, _ => exact tyX5_ok
  | 5, _ => exact tyX6_ok
  | 6, _ => exact tyX7_ok
  | ci + 7, h => omega
theorem nmF_ok {ci : Nat} (h : ci < 7) : ∀ a, a < (nCl ci).2.2 → ∀ b, b < (nCl ci).2.2 → a ≠ b → ((nCl ci).2.1 a).2.1 ≠ ((nCl ci).2.1 b).2.1 := by
  match ci, h with
  | 0, _ => exact nmX0
  | 1, _ => exact nmX2
  | 2, _ => exact nmX3
  | 3, _ => exact nmX4
  | 4, _ => exact nmX5
  | 5, _ => exact nmX6
  | 6, _ => exact nmX7
  | ci + 7, h => omega
theorem KDs_98 : ∀ q ∈ KDs, q ≠ .inl 98 := by decide +kernel
theorem KD_98 (o : Nat) : KD o ≠ .inl 98 := by
  unfold KD
  rw [List.getD_eq_getElem?_getD]
  cases h : KDs[o]? with
  | none => simp
  | some q => exact KDs_98 q (List.mem_of_getElem? h)
section VM
variable {mt : MT} {sc : Option (Nat × (Nat → Int32))} {d nE : Nat} {Q : QT} {pc nx t ci k n : Nat} {c32 : Int32} {c64 : Int64} {L : Lc} {st : List Value} {I : I2} {J : J2} {F : F2}
theorem SF.P {s : State} {D : va_G} {A : Nat → Prop} {n0 : Nat} {ad0 : Nat → Nat} {cA : Nat → ClassId} {ad : Nat → Nat} {H : Heap} {locs : List Loc} {ls : Array Slot} (S : SF mt nE s D A n0 ad0 cA ad H locs ls L n I J F) : va_P D vwCl (wl cA ad n I J F) H := S.2.2.1
theorem okField_of {own : String} {idx : Nat} (o : Nat) (hKD : KD o = .inl ci) (h : (ci == 98 || okField own idx t ci k) = true) : ci < 7 ∧ k < (nCl ci).2.2 ∧ ((nCl ci).2.1 k).1 = (nCl ci).1 ∧ (Cond.fieldLink own idx (nCl ci).1 ((nCl ci).2.1 k).2.1 ((nCl ci).2.1 k).2.2.1 ∈ tblG ∨ Cond.fieldLinkNest own idx (nCl ci).1 ((nCl ci).2.1 k).2.1 ((nCl ci).2.1 k).2.2.1 hostN ∈ tblN) := by
  have h98 : ¬ ci = 98 := fun e => KD_98 o (by rw [hKD, e])
  have h1 : okField own idx t ci k = true := by simpa [h98] using h
  simp only [okField, Bool.and_eq_true, decide_eq_true_eq, Bool.or_eq_true] at h1
  exact ⟨h1.1, h1.2.1, h1.2.2.1, h1.2.2.2.imp gAt_mem nAt_mem⟩
theorem V_get {z o : Nat} (he : fE mt.2.2.2.2.2.2 pc = some (pc, .getfield z, nx, t, c32, c64, ci, k)) (hKD : KD o = .inl ci) (hon : o < n) (kk : V mt sc d nE Q nx L (fv I J F o k (tyF ci k) :: st) n I J F) : V mt sc d nE Q pc L (.ref o :: st) n I J F := by
  intro p l e R s m args below meth c D A n0 ad0 Qf X cA ad H locs ls S
  obtain ⟨hd, hn, ho⟩ := row_of X.2.2.1 he rfl
  subst hn
  obtain ⟨h7, hk, hdecl, hl⟩ := okField_of o hKD ho
  have hts := X.2.2.2.2.2.2.2.2.1
  have hown := X.2.2.2.2.2.2.1
  have hEn := X.2.2.2.2.2.2.2.2.2.1
  have hsame : ∀ x, s.fieldFound? ((nCl ci).2.1 k).1 ((nCl ci).2.1 k).2.1 ((nCl ci).2.1 k).2.2.1 = some x → s.fieldFound? (nCl ci).1 ((nCl ci).2.1 k).2.1 ((nCl ci).2.1 k).2.2.1 = some x := fun x hx => by rw [← hdecl]; exact hx
  have kk2 := kk p l e R s m args below meth c D A n0 ad0 Qf X cA ad H locs ls S
  rcases hl with hl | hl
  · exact va_get (D := D) (ci := ci) X.1 X.2.1 hts (uwsT h7) hown S.2.2.2.1.K0 S.P o (wl_obj hon hKD) (nCl_get h7) k hk (hts _ hl) hsame (fsO_get hk) hd kk2
  · exact va_getN (D := D) (ci := ci) X.1 X.2.1 hts (uwsT h7) hown S.2.2.2.1.K0 S.P o (wl_obj hon hKD) (nCl_get h7) k hk (va_Nw.use rfl (hEn.2.2.2.2 _ hl)) hsame (fsO_get hk) hd kk2
theorem wl_set {cA : Nat → ClassId} {ad : Nat → Nat} {o : Nat} {E' : va_E} {I' : I2} {J' : J2} {F' : F2} (h : ∀ i, i < n → i ≠ o → cellA cA ad I' J' F' i = cellA cA ad I J F i) (ho : cellA cA ad I' J' F' o = E') : (wl cA ad n I J F).set o (ad o, E') = wl cA ad n I' J' F' := by
  apply List.ext_getElem?
  intro i
  by_cases hi : i < n
  · by_cases hio : i = o
    · subst hio
      rw [List.getElem?_set_self (by rw [wl_len]; exact hi), wl_get hi, ho]
    · rw [List.getElem?_set_ne (Ne.symm hio), wl_get hi, wl_get hi, h i hi hio]
  · rw [List.getElem?_eq_none (by simp [wl_len]; omega), List.getElem?_eq_none (by simp [wl_len]; omega)]
theorem up2_ne {α : Type} {f : Nat → Nat → α} {o k i : Nat} {v : α} (h : i ≠ o) : up2 f o k v i = f i := by funext j; simp [up2, h]
theorem up2_eq {α : Type} {f : Nat → Nat → α} {o k : Nat} {v : α} : up2 f o k v o = fun j => if j = k then v else f o j := by funext j; simp [up2]
theorem row2_ne {α : Type} {f : Nat → Nat → α} {o i : Nat} {g : Nat → α} (h : i ≠ o) : row2 f o g i = f i := by funext j; simp [row2, h]
theorem row2_eq {α : Type} {f : Nat → Nat → α} {o : Nat} {g : Nat → α} : row2 f o g o = g := by funext j; simp [row2]
theorem cell_eq {cA : Nat → ClassId} {ad : Nat → Nat} {i : Nat} {I' : I2} {J' : J2} {F' : F2} (h1 : I' i = I i) (h2 : J' i = J i) (h3 : F' i = F i) : cellA cA ad I' J' F' i = cellA cA ad I J F i := by
  unfold cellA
  cases KD i with
  | inl c => simp only [fv, h1, h2, h3]
  | inr q => simp only [arrA, h1, h2]
theorem fs_set {ad : Nat → Nat} {o : Nat} {v : Value} {I' : I2} {J' : J2} {F' : F2} (hk : k < (nCl ci).2.2) (h1 : cv ad (fv I' J' F' o k (tyF ci k)) = v) (h2 : ∀ j, j ≠ k → fv I' J' F' o j (tyF ci j) = fv I J F o j (tyF ci j)) : (fsO ad I J F o ci).set k v = fsO ad I' J' F' o ci := by
  apply List.ext_getElem?
  intro i
  by_cases hi : i < (nCl ci).2.2
  · by_cases hik : i = k
    · subst hik
      rw [List.getElem?_set_self (by rw [fsO_len]; exact hi), fsO_get hi, h1]
    · rw [List.getElem?_set_ne (Ne.symm hik), fsO_get hi, fsO_get hi, h2 i hik]
  · rw [List.getElem?_eq_none (by simp [fsO_len]; omega), List.getElem?_eq_none (by simp [fsO_len]; omega)]
/-- a field that isn't final is written -/
theorem V_put0 {z o : Nat} {v : Value} {I' : I2} {J' : J2} (he : fE mt.2.2.2.2.2.2 pc = some (pc, .putfield z, nx, t, c32, c64, ci, k)) (hKD : KD o = .inl ci) (hon : o < n) (hfin : ((nCl ci).2.1 k).2.2.2 = false) (hcv : ∀ ad, cv ad v = v) (hnar : narrow (tyF ci k) v = v) (hfit : fits (tyF ci k) v = true)
    (hI : ∀ i, i ≠ o → I' i = I i) (hJ : ∀ i, i ≠ o → J' i = J i) (h1 : fv I' J' F o k (tyF ci k) = v) (h2 : ∀ j, j ≠ k → fv I' J' F o j (tyF ci j) = fv I J F o j (tyF ci j))
    (kk : V mt sc d nE Q nx L st n I' J' F) : V mt sc d nE Q pc L (v :: .ref o :: st) n I J F := by
  intro p l e R s m args below meth c D A n0 ad0 Qf X cA ad H locs ls S
  obtain ⟨hd, hn, ho⟩ := row_of X.2.2.1 he rfl
  subst hn
  obtain ⟨h7, hk, hdecl, hl⟩ := okField_of o hKD ho
  have hts := X.2.2.2.2.2.2.2.2.1
  have hown := X.2.2.2.2.2.2.1
  have hEn := X.2.2.2.2.2.2.2.2.2.1
  have hsame : ∀ x, s.fieldFound? ((nCl ci).2.1 k).1 ((nCl ci).2.1 k).2.1 ((nCl ci).2.1 k).2.2.1 = some x → s.fieldFound? (nCl ci).1 ((nCl ci).2.1 k).2.1 ((nCl ci).2.1 k).2.2.1 = some x := fun x hx => by rw [← hdecl]; exact hx
  have e1 : (wl cA ad n I J F).set o (ad o, .inr (ci, (fsO ad I J F o ci).set k v)) = wl cA ad n I' J' F := by
    refine wl_set (fun i hi hio => cell_eq (hI i hio) (hJ i hio) rfl) ?_
    rw [fs_set (I' := I') (J' := J') (F' := F) hk (by rw [h1]; exact hcv ad) h2]
    simp [cellA, hKD, fsO]
  have kk2 : ∀ (H1 : Heap) (locs1 : List Loc), va_P D vwCl ((wl cA ad n I J F).set o (ad o, .inr (ci, (fsO ad I J F o ci).set k v))) H1 → va_D A ((wl cA ad n I J F).set o (ad o, .inr (ci, (fsO ad I J F o ci).set k v))) → va_S A s.heap H1 locs1 → W p l e R s m args below meth c H1 locs1 (n - n0) (sl n - sl n0) Qf (F0 m (pc + 3) ls (st.map (cv ad))) := by
    intro H1 locs1 hP hD hS
    rw [e1] at hP hD
    exact kk p l e R s m args below meth c D A n0 ad0 Qf X cA ad H1 locs1 ls ⟨S.1, S.2.1, hP, S.2.2.2.1, hD, hS, S.2.2.2.2.2.2.1, S.2.2.2.2.2.2.2.1, S.lv⟩
  show W p l e R s m args below meth c H locs (n - n0) (sl n - sl n0) Qf (F0 m pc ls (cv ad v :: .ref (ad o) :: st.map (cv ad)))
  rw [hcv ad]
  rcases hl with hl | hl
  · exact va_put (D := D) (ci := ci) (ty := tyF ci k) X.1 X.2.1 hts (uwsT h7) (tyF ci) (tyF_ok h7) (nmF_ok h7) hown S.2.2.2.1.K0 S.P S.2.2.2.2.1 S.2.2.2.2.2.1 o (wl_obj hon hKD) (nCl_get h7) k hk (hts _ hl) hsame hfin (tyF_ok h7 k hk) hnar hfit (by rw [fsO_len]; exact hk) hd kk2
  · exact va_putN (D := D) (ci := ci) (ty := tyF ci k) X.1 X.2.1 hts (uwsT h7) (tyF ci) (tyF_ok h7) (nmF_ok h7) hown S.2.2.2.1.K0 S.P S.2.2.2.2.1 S.2.2.2.2.2.1 o (wl_obj hon hKD) (nCl_get h7) k hk (va_Nw.use rfl (hEn.2.2.2.2 _ hl)) hsame hfin (tyF_ok h7 k hk) hnar hfit (by rw [fsO_len]; exact hk) hd kk2
theorem fv_up {o : Nat} {x : Int32} (j : Nat) (hj : j ≠ k) (ty : FieldType) : fv (up2 I o k x) J F o j ty = fv I J F o j ty := by
  cases ty <;> simp [fv, up2, hj]
theorem fv_upJ {o : Nat} {x : Int64} (j : Nat) (hj : j ≠ k) (ty : FieldType) : fv I (up2 J o k x) F o j ty = fv I J F o j ty := by
  cases ty <;> simp [fv, up2, hj]
theorem V_putI {z o : Nat} {x : Int32} (he : fE mt.2.2.2.2.2.2 pc = some (pc, .putfield z, nx, t, c32, c64, ci, k)) (hKD : KD o = .inl ci) (hon : o < n) (hfin : ((nCl ci).2.1 k).2.2.2 = false) (hty : tyF ci k = .int)
    (kk : V mt sc d nE Q nx L st n (up2 I o k x) J F) : V mt sc d nE Q pc L (.int x :: .ref o :: st) n I J F :=
  V_put0 he hKD hon hfin (fun _ => rfl) (by rw [hty]; rfl) (by rw [hty]; rfl) (fun i hi => up2_ne hi) (fun _ _ => rfl) (by rw [hty]; simp [fv, up2]) (fun j hj => fv_up j hj _) kk
theorem V_putZ {z o : Nat} {x : Int32} (he : fE mt.2.2.2.2.2.2 pc = some (pc, .putfield z, nx, t, c32, c64, ci, k)) (hKD : KD o = .inl ci) (hon : o < n) (hfin : ((nCl ci).2.1 k).2.2.2 = false) (hty : tyF ci k = .boolean) (hx : x = 0 ∨ x = 1)
    (kk : V mt sc d nE Q nx L st n (up2 I o k x) J F) : V mt sc d nE Q pc L (.int x :: .ref o :: st) n I J F :=
  V_put0 he hKD hon hfin (fun _ => rfl) (by rw [hty]; rcases hx with rfl | rfl <;> decide) (by rw [hty]; rcases hx with rfl | rfl <;> decide) (fun i hi => up2_ne hi) (fun _ _ => rfl) (by rw [hty]; simp [fv, up2]) (fun j hj => fv_up j hj _) kk
theorem V_putJ {z o : Nat} {x : Int64} (he : fE mt.2.2.2.2.2.2 pc = some (pc, .putfield z, nx, t, c32, c64, ci, k)) (hKD : KD o = .inl ci) (hon : o < n) (hfin : ((nCl ci).2.1 k).2.2.2 = false) (hty : tyF ci k = .long)
    (kk : V mt sc d nE Q nx L st n I (up2 J o k x) F) : V mt sc d nE Q pc L (.long x :: .ref o :: st) n I J F :=
  V_put0 he hKD hon hfin (fun _ => rfl) (by rw [hty]; rfl) (by rw [hty]; rfl) (fun _ _ => rfl) (fun i hi => up2_ne hi) (by rw [hty]; simp [fv, up2]) (fun j hj => fv_upJ j hj _) kk
/-! arrays -/
def inb (i : Int32) (len : Nat) : Prop := 0 ≤ i ∧ i.toNatClampNeg < len
theorem inb_vp {i : Int32} {len : Nat} (h : inb i len) : vp_in i len := fun q => q.elim (fun z => absurd h.1 (Int32.not_le.mpr z)) (fun z => absurd h.2 (Nat.not_lt.mpr z))
theorem V_iald {o len : Nat} {i : Int32} (he : fE mt.2.2.2.2.2.2 pc = some (pc, .iaload, nx, t, c32, c64, ci, k)) (hKD : KD o = .inr (len, .int)) (hon : o < n) (hi : inb i len) (kk : V mt sc d nE Q nx L (.int (I o i.toNatClampNeg) :: st) n I J F) : V mt sc d nE Q pc L (.int i :: .ref o :: st) n I J F := by
  intro p l e R s m args below meth c D A n0 ad0 Qf X cA ad H locs ls S
  obtain ⟨hd, hn, ho⟩ := row_of X.2.2.1 he rfl
  subst hn
  exact va_iald (D := D) X.1 X.2.1 (S.2.2.2.1.K1 hon hKD) S.P o 0 (wl_arr hon hKD) rfl (inb_vp hi) hd (kk p l e R s m args below meth c D A n0 ad0 Qf X cA ad H locs ls S)
theorem V_zald {o len : Nat} {i : Int32} (he : fE mt.2.2.2.2.2.2 pc = some (pc, .baload, nx, t, c32, c64, ci, k)) (hKD : KD o = .inr (len, .boolean)) (hon : o < n) (hi : inb i len) (kk : V mt sc d nE Q nx L (.int (I o i.toNatClampNeg) :: st) n I J F) : V mt sc d nE Q pc L (.int i :: .ref o :: st) n I J F := by
  intro p l e R s m args below meth c D A n0 ad0 Qf X cA ad H locs ls S
  obtain ⟨hd, hn, ho⟩ := row_of X.2.2.1 he rfl
  subst hn
  exact va_zald (D := D) X.1 X.2.1 (S.2.2.2.1.K1 hon hKD) S.P o 0 (wl_arr hon hKD) rfl (inb_vp hi) hd (kk p l e R s m args below meth c D A n0 ad0 Qf X cA ad H locs ls S)
theorem V_lald {o len : Nat} {i : Int32} (he : fE mt.2.2.2.2.2.2 pc = some (pc, .laload, nx, t, c32, c64, ci, k)) (hKD : KD o = .inr (len, .long)) (hon : o < n) (hi : inb i len) (kk : V mt sc d nE Q nx L (.long (J o i.toNatClampNeg) :: st) n I J F) : V mt sc d nE Q pc L (.int i :: .ref o :: st) n I J F := by
  intro p l e R s m args below meth c D A n0 ad0 Qf X cA ad H locs ls S
  obtain ⟨hd, hn, ho⟩ := row_of X.2.2.1 he rfl
  subst hn
  exact va_lald (D := D) X.1 X.2.1 (S.2.2.2.1.K1 hon hKD) S.P o 0 (wl_arr hon hKD) rfl (inb_vp hi) hd (kk p l e R s m args below meth c D A n0 ad0 Qf X cA ad H locs ls S)
theorem V_alen {o len : Nat} {ty : FieldType} {v : Int32} (he : fE mt.2.2.2.2.2.2 pc = some (pc, .arraylength, nx, t, c32, c64, ci, k)) (hKD : KD o = .inr (len, ty)) (hon : o < n) (hv : Int32.ofNat len = v) (kk : V mt sc d nE Q nx L (.int v :: st) n I J F) : V mt sc d nE Q pc L (.ref o :: st) n I J F := by
  intro p l e R s m args below meth c D A n0 ad0 Qf X cA ad H locs ls S
  obtain ⟨hd, hn, ho⟩ := row_of X.2.2.1 he rfl
  subst hn
  exact va_alen (D := D) X.1 X.2.1 (S.2.2.2.1.K1 hon hKD) S.P o 0 (wl_arr hon hKD) rfl hv hd (kk p l e R s m args below meth c D A n0 ad0 Qf X cA ad H locs ls S)
theorem V_iast {o len : Nat} {i x : Int32} (he : fE mt.2.2.2.2.2.2 pc = some (pc, .iastore, nx, t, c32, c64, ci, k)) (hKD : KD o = .inr (len, .int)) (hon : o < n) (hi : inb i len) (kk : V mt sc d nE Q nx L st n (up2 I o i.toNatClampNeg x) J F) : V mt sc d nE Q pc L (.int x :: .int i :: .ref o :: st) n I J F := by
  intro p l e R s m args below meth c D A n0 ad0 Qf X cA ad H locs ls S
  obtain ⟨hd, hn, ho⟩ := row_of X.2.2.1 he rfl
  subst hn
  refine va_iast (D := D) X.1 X.2.1 (S.2.2.2.1.K1 hon hKD) S.P S.2.2.2.2.1 S.2.2.2.2.2.1 o 0 (wl_arr hon hKD) rfl (inb_vp hi) hd (fun H1 locs1 hP hD hS => ?_)
  have e1 : (wl cA ad n I J F).set o (ad o, .inl (cA o, len, .inl (upd (I o) i.toNatClampNeg x))) = wl cA ad n (up2 I o i.toNatClampNeg x) J F := by
    refine wl_set (fun j hj hjo => cell_eq (up2_ne hjo) rfl rfl) ?_
    simp only [cellA, hKD, arrA, up2_eq]
    rfl
  rw [e1] at hP hD
  exact kk p l e R s m args below meth c D A n0 ad0 Qf X cA ad H1 locs1 ls ⟨S.1, S.2.1, hP, S.2.2.2.1, hD, hS, S.2.2.2.2.2.2.1, S.2.2.2.2.2.2.2.1, S.lv⟩
theorem V_zast {o len : Nat} {i x : Int32} (he : fE mt.2.2.2.2.2.2 pc = some (pc, .bastore, nx, t, c32, c64, ci, k)) (hKD : KD o = .inr (len, .boolean)) (hon : o < n) (hi : inb i len) (hx : x = 0 ∨ x = 1) (kk : V mt sc d nE Q nx L st n (up2 I o i.toNatClampNeg x) J F) : V mt sc d nE Q pc L (.int x :: .int i :: .ref o :: st) n I J F := by
  intro p l e R s m args below meth c D A n0 ad0 Qf X cA ad H locs ls S
  obtain ⟨hd, hn, ho⟩ := row_of X.2.2.1 he rfl
  subst hn
  refine va_zast (D := D) X.1 X.2.1 (S.2.2.2.1.K1 hon hKD) S.P S.2.2.2.2.1 S.2.2.2.2.2.1 o 0 (wl_arr hon hKD) rfl (inb_vp hi) hd (fun H1 locs1 hP hD hS => ?_)
  have hx1 : vp_nar .boolean x = x := by rcases hx with rfl | rfl <;> decide
  have e1 : (wl cA ad n I J F).set o (ad o, .inl (cA o, len, .inl (upd (I o) i.toNatClampNeg (vp_nar .boolean x)))) = wl cA ad n (up2 I o i.toNatClampNeg x) J F := by
    rw [hx1]
    refine wl_set (fun j hj hjo => cell_eq (up2_ne hjo) rfl rfl) ?_
    simp only [cellA, hKD, arrA, up2_eq]
    rfl
  rw [e1] at hP hD
  exact kk p l e R s m args below meth c D A n0 ad0 Qf X cA ad H1 locs1 ls ⟨S.1, S.2.1, hP, S.2.2.2.1, hD, hS, S.2.2.2.2.2.2.1, S.2.2.2.2.2.2.2.1, S.lv⟩
theorem V_last {o len : Nat} {i : Int32} {x : Int64} (he : fE mt.2.2.2.2.2.2 pc = some (pc, .lastore, nx, t, c32, c64, ci, k)) (hKD : KD o = .inr (len, .long)) (hon : o < n) (hi : inb i len) (kk : V mt sc d nE Q nx L st n I (up2 J o i.toNatClampNeg x) F) : V mt sc d nE Q pc L (.long x :: .int i :: .ref o :: st) n I J F := by
  intro p l e R s m args below meth c D A n0 ad0 Qf X cA ad H locs ls S
  obtain ⟨hd, hn, ho⟩ := row_of X.2.2.1 he rfl
  subst hn
  refine va_last (D := D) X.1 X.2.1 (S.2.2.2.1.K1 hon hKD) S.P S.2.2.2.2.1 S.2.2.2.2.2.1 o 0 (wl_arr hon hKD) rfl (inb_vp hi) hd (fun H1 locs1 hP hD hS => ?_)
  have e1 : (wl cA ad n I J F).set o (ad o, .inl (cA o, len, .inr (.inl (vp_updL (J o) i.toNatClampNeg x)))) = wl cA ad n I (up2 J o i.toNatClampNeg x) F := by
    refine wl_set (fun j hj hjo => cell_eq rfl (up2_ne hjo) rfl) ?_
    simp only [cellA, hKD, arrA, up2_eq]
    rfl
  rw [e1] at hP hD
  exact kk p l e R s m args below meth c D A n0 ad0 Qf X cA ad H1 locs1 ls ⟨S.1, S.2.1, hP, S.2.2.2.1, hD, hS, S.2.2.2.2.2.2.1, S.2.2.2.2.2.2.2.1, S.lv⟩
/-! switches -/
theorem rowS_of {mt : MT} (h : okM mt = true) {pc nx t ci k : Nat} {ins : Instr} {c32 : Int32} {c64 : Int64} (he : fE mt.2.2.2.2.2.2 pc = some (pc, ins, nx, t, c32, c64, ci, k)) : decode mt.2.2.1 pc = .ok (ins, nx - pc) := by
  have h1 := okM_e h (fE_mem he).1
  simp only [okE, Bool.and_eq_true, decide_eq_true_eq] at h1
  exact h1.1
/-- one branch of a switch for each case -/
def swT (pc : Nat) (lo : Int) (offs : Array Int) (dflt : Int) (x : Int) : Nat := if x < lo then ((pc : Int) + dflt).toNat else match offs[(x - lo).toNat]? with
  | some o => ((pc : Int) + o).toNat
  | none => ((pc : Int) + dflt).toNat
theorem V_tsw {dflt lo hi : Int} {offs : Array Int} {x : Int32} (he : fE mt.2.2.2.2.2.2 pc = some (pc, .tableswitch dflt lo hi offs, nx, t, c32, c64, ci, k)) (hsz : (offs.size : Int) = hi + 1 - lo) (hpos : (∀ o ∈ offs.toList, 0 ≤ (pc : Int) + o) ∧ 0 ≤ (pc : Int) + dflt) (kk : V mt sc d nE Q (swT pc lo offs dflt x.toInt) L st n I J F) : V mt sc d nE Q pc L (.int x :: st) n I J F := by
  intro p l e R s m args below meth c D A n0 ad0 Qf X cA ad H locs ls S
  have hd := rowS_of X.2.2.1 he
  have kk2 := kk p l e R s m args below meth c D A n0 ad0 Qf X cA ad H locs ls S
  by_cases h1 : x.toInt < lo
  · refine lv_tableOut (tgt := ((pc : Int) + dflt).toNat) X.1 X.2.1 hd (Or.inl h1) (Int.toNat_of_nonneg hpos.2).symm ?_
    simpa [swT, h1] using kk2
  · by_cases h2 : hi < x.toInt
    · refine lv_tableOut (tgt := ((pc : Int) + dflt).toNat) X.1 X.2.1 hd (Or.inr h2) (Int.toNat_of_nonneg hpos.2).symm ?_
      have h3 : offs[(x.toInt - lo).toNat]? = none := by
        rw [Array.getElem?_eq_none_iff]; omega
      simpa [swT, h1, h3] using kk2
    · have hlt : (x.toInt - lo).toNat < offs.size := by omega
      refine lv_tableIn (off := offs[(x.toInt - lo).toNat]) (tgt := ((pc : Int) + offs[(x.toInt - lo).toNat]).toNat) X.1 X.2.1 hd h1 h2 (Array.getElem?_eq_getElem hlt) (Int.toNat_of_nonneg (hpos.1 _ (by simp))).symm ?_
      simpa [swT, h1, Array.getElem?_eq_getElem hlt] using kk2
end VM
end
section
theorem sl_succ (n : Nat) : sl (n + 1) = sl n + slotsK (KD n) := by
  simp [sl, List.range_succ]
theorem sl_mono {n m : Nat} (h : n ≤ m) : sl n ≤ sl m := by
  induction h with
  | refl => exact Nat.le_refl _
  | step _ ih => rw [sl_succ]; omega
section VR
variable {mt : MT} {sc : Option (Nat × (Nat → Int32))} {d nE : Nat} {Q : QT} {pc nx t ci k n : Nat} {c32 : Int32} {c64 : Int64} {L : Lc} {st : List Value} {I : I2} {J : J2} {F : F2}
theorem V_ret0 {rv : Option Value} (hq : Q rv I J F) (hn : n = nE) (hR : okM mt = true → RetI mt.2.2.1 mt.2.2.2.2.1 rv pc) (hst : st = rv.toList) : V mt sc d nE Q pc L st n I J F := by
  intro p l e R s m args below meth c D A n0 ad0 Qf X cA ad H locs ls S
  subst hn
  subst hst
  have h := X.2.2.2.2.2.2.2.2.2.2.2.2.2 rv I J F cA ad H locs ls pc hq S.P S.2.2.2.1 S.2.2.2.2.1 S.2.2.2.2.2.1 S.2.2.2.2.2.2.1 S.2.2.2.2.2.2.2.1 (hR X.2.2.1)
  cases rv <;> exact h
theorem V_iret {x : Int32} (he : fE mt.2.2.2.2.2.2 pc = some (pc, .ireturn, nx, t, c32, c64, ci, k)) (hr : mt.2.2.2.2.1 = some .int) (hn : n = nE) (hq : Q (some (.int x)) I J F) : V mt sc d nE Q pc L [.int x] n I J F :=
  V_ret0 hq hn (fun h => ⟨(row_of h he rfl).1, .int, hr, rfl⟩) rfl
theorem V_zret {x : Int32} (he : fE mt.2.2.2.2.2.2 pc = some (pc, .ireturn, nx, t, c32, c64, ci, k)) (hr : mt.2.2.2.2.1 = some .boolean) (hn : n = nE) (hx : x = 0 ∨ x = 1) (hq : Q (some (.int x)) I J F) : V mt sc d nE Q pc L [.int x] n I J F :=
  V_ret0 hq hn (fun h => ⟨(row_of h he rfl).1, .boolean, hr, by rcases hx with rfl | rfl <;> decide⟩) rfl
theorem V_nret {x : Int32} {ty : FieldType} (he : fE mt.2.2.2.2.2.2 pc = some (pc, .ireturn, nx, t, c32, c64, ci, k)) (hr : mt.2.2.2.2.1 = some ty) (hn : n = nE) (hx : narrow ty (.int x) = .int x) (hq : Q (some (.int x)) I J F) : V mt sc d nE Q pc L [.int x] n I J F :=
  V_ret0 hq hn (fun h => ⟨(row_of h he rfl).1, ty, hr, hx⟩) rfl
theorem V_lret {x : Int64} (he : fE mt.2.2.2.2.2.2 pc = some (pc, .lreturn, nx, t, c32, c64, ci, k)) (hr : mt.2.2.2.2.1 = some .long) (hn : n = nE) (hq : Q (some (.long x)) I J F) : V mt sc d nE Q pc L [.long x] n I J F :=
  V_ret0 hq hn (fun h => ⟨(row_of h he rfl).1, hr⟩) rfl
theorem V_aret {x : Nat} {nm : String} (he : fE mt.2.2.2.2.2.2 pc = some (pc, .areturn, nx, t, c32, c64, ci, k)) (hr : mt.2.2.2.2.1 = some (.object nm)) (hn : n = nE) (hq : Q (some (.ref x)) I J F) : V mt sc d nE Q pc L [.ref x] n I J F :=
  V_ret0 hq hn (fun h => ⟨(row_of h he rfl).1, nm, hr⟩) rfl
theorem V_vret (he : fE mt.2.2.2.2.2.2 pc = some (pc, .return_, nx, t, c32, c64, ci, k)) (hr : mt.2.2.2.2.1 = none) (hn : n = nE) (hq : Q none I J F) : V mt sc d nE Q pc L [] n I J F :=
  V_ret0 hq hn (fun h => ⟨(row_of h he rfl).1, hr⟩) rfl
end VR
/-! CONTRACTS -/
def wsY (mt : MT) : List Cond := .code mt.2.1 mt.2.2.1 mt.2.2.2.1 mt.2.2.2.2.1 :: tblG
def rmD (d n nE : Nat) : Room := { frames := d, cells := nE - n, slots := sl nE - sl n, locals := 40 * d }
def Bf (D : va_G) (cA : Nat → ClassId) (ad : Nat → Nat) (sz n : Nat) (I : I2) (J : J2) (F : F2) (U : State) : Prop :=
  U.heap.size = sz ∧ va_P D vwCl (wl cA ad n I J F) U.heap ∧ KS D cA n U ∧ va_D (fun _ => True) (wl cA ad n I J F) ∧ En ad (va_A (wl cA ad n I J F) sz) U U.heap ∧ wfF n F
def Qg (D : va_G) (n nE : Nat) (ad : Nat → Nat) (Q : QT) (A : Nat → Prop) : Array Value → State → Outcome → State → Prop := fun _ st oc t =>
  (∃ (rv : Option Value) (I : I2) (J : J2) (F : F2) (cA : Nat → ClassId) (ad' : Nat → Nat), oc = .returned (rv.map (cv ad')) ∧ Q rv I J F ∧ va_P D vwCl (wl cA ad' nE I J F) t.heap ∧ KS D cA nE t ∧ va_D A (wl cA ad' nE I J F) ∧ wfF nE F ∧ ∀ i, (i < n ∨ 1000 ≤ i ∨ nE = n) → ad' i = ad i) ∧ va_F A st t
/-- the contract: at these arguments, in this world, it ends with Q -/
def CT (mt : MT) (d n nE : Nat) (As : List Value) (I : I2) (J : J2) (F : F2) (Q : QT) : Prop :=
  ∀ (l : Launch) (D : va_G) (cA : Nat → ClassId) (ad : Nat → Nat) (sz : Nat), Met l mt.2.1 (wsY mt) (rmD d n nE) (va_Pc (As.map (cv ad)) (Bf D cA ad sz n I J F)) (Qg D n nE ad Q (va_A (wl cA ad n I J F) sz)) (nE - n) (sl nE - sl n) (va_A (wl cA ad n I J F) sz)
theorem args_cv (ad : Nat → Nat) : ∀ (As : List Value) (i : Nat), lv_args i (As.map (cv ad)) = (lv_args i As).map (cvl ad)
  | [], _ => rfl
  | v :: vs, i => by
    simp only [List.map_cons, lv_args, cv_cat, cvl]
    rw [args_cv ad vs]
theorem sl_cv (ad : Nat → Nat) (As : List Value) : (lg_sl (As.map (cv ad))).length = (lg_sl As).length := by
  induction As with
  | nil => rfl
  | cons v vs ih =>
    simp only [lg_sl, List.map_cons, List.flatMap_cons, List.length_append, cv_cat] at ih ⊢
    rw [ih]
    split <;> rfl
theorem CT_of {mt : MT} {d n nE : Nat} {As : List Value} {I : I2} {J : J2} {F : F2} {Q : QT} (hok : okM mt = true) (hlen : (lg_sl As).length ≤ mt.2.2.2.1) (v : V mt none d nE Q 0 (lv_args 0 As) [] n I J F) (hnE : n ≤ nE := by exact Nat.le_refl _) : CT mt d n nE As I J F Q := by
  intro l D cA ad sz
  have hok2 := hok
  obtain ⟨own, y, cc, nL, ret, wi, tbl⟩ := mt
  simp only [okM, Bool.and_eq_true, decide_eq_true_eq] at hok2
  obtain ⟨hpl, hyc, hnL, hgat, -⟩ := hok2
  refine Met.ofW (cc := cc) (maxL := nL) (ret := ret) hpl rfl ?_
  intro p e s m args below meth c s₁ B hml hv
  obtain ⟨rfl, hsz, hP, hK, hD0, hE, hwf⟩ := hv
  have hts := atoms_spec (ws := wsY (own, y, cc, nL, ret, wi, tbl)) B.pre
  have hown : s.vm.findClass own = some m.cls := by
    have h := findClass_of_methodNamed B.named
    rw [hyc] at h
    exact h
  have hname : meth.name = y.name := (name_of_methodNamed B.named B.method).1
  subst hsz
  have hx := B.exec
  have hb := B.bytes
  have hr := B.returns
  have hlocks := B.notSynchronized
  have hD := hD0.self (sz := s.heap.size)
  have hA : ∀ q : Nat, s.heap.size ≤ q → va_A (wl cA ad n I J F) s.heap.size q := fun q h => Or.inr h
  rw [lg_entry_eq]
  have hl := lv_entry (As.map (cv ad)) (n := nL) (by rw [sl_cv]; exact hlen)
  rw [args_cv] at hl
  have hv := v p l e (rmD d n nE) s m _ below meth c D (va_A (wl cA ad n I J F) s.heap.size) n ad (MQ below (Qg D n nE ad Q (va_A (wl cA ad n I J F) s.heap.size)) (As.map (cv ad)).toArray s (nE - n) (sl nE - sl n) (va_A (wl cA ad n I J F) s.heap.size))
    ⟨hx, hb, hok, hr, hlocks, hml, hown, hname, fun w hw => hts w (List.mem_cons_of_mem _ hw), hE, hA, ⟨Nat.le_refl _, Nat.le_refl _, Nat.le_refl _, Nat.le_refl _⟩, trivial, ?_⟩
    cA ad s.heap [] _ ⟨Nat.le_refl _, hnE, hP, hK, hD, va_S.rf, hwf, fun _ _ => rfl, hl⟩
  · rw [Nat.sub_self, Nat.sub_self] at hv
    exact hv
  · intro rv I' J' F' cA' ad' H locs ls pc hq hP' hK' hD' hS' hwf' had' hR
    have hQ : ∀ t : State, t.heap = H → s.WarmedH t.vm → Qg D n nE ad Q (va_A (wl cA ad n I J F) s.heap.size) (As.map (cv ad)).toArray s (.returned (rv.map (cv ad'))) t := fun t ht hW =>
      ⟨⟨rv, I', J', F', cA', ad', rfl, hq, by rw [ht]; exact hP', hK'.moved hW.alike, hD', hwf', had'⟩, hS'.F ht⟩
    match rv, hR, hQ with
    | none, hR, hQ => exact W.vret hx hb (hr.trans hR.2) hQ hS'.2.2 hR.1 hlocks
    | some (.int x), hR, hQ =>
      obtain ⟨hd, ty, h1, h2⟩ := hR
      exact W.zret hx hb (hr.trans h1) h2 hQ hS'.2.2 hd hlocks
    | some (.long x), hR, hQ => exact W.lret hx hb (hr.trans hR.2) hQ hS'.2.2 hR.1 hlocks
    | some (.ref x), hR, hQ =>
      obtain ⟨hd, nm, h1⟩ := hR
      exact W.aret hx hb (hr.trans h1) (Or.inl ⟨nm, rfl⟩) (Or.inr ⟨_, rfl⟩) hQ hS'.2.2 hd hlocks
    | some (.float x), hR, _ => exact hR.elim
    | some (.double x), hR, _ => exact hR.elim
    | some .null, hR, _ => exact hR.elim
    | some (.retAddr x), hR, _ => exact hR.elim
theorem Bf_blind {D : va_G} {cA : Nat → ClassId} {ad : Nat → Nat} {sz n : Nat} {I : I2} {J : J2} {F : F2} {As : List Value} : FrameBlind (va_Pc As (Bf D cA ad sz n I J F)) := by
  intro a U g mk q
  obtain ⟨h0, h1, h2, h3, h4, h5, h6⟩ := q
  exact ⟨h0, h1, h2, KS.moved (u := U) (U := U.calling g mk a) (Vm.Alike.refl U.vm) h3, h4, h5.calling, h6⟩
theorem va_A_wl {cA : Nat → ClassId} {ad : Nat → Nat} {n sz : Nat} {I : I2} {J : J2} {F : F2} {A : Nat → Prop} (hD : va_D A (wl cA ad n I J F)) (hA : ∀ q, sz ≤ q → A q) : ∀ q, va_A (wl cA ad n I J F) sz q → A q := by
  intro q h
  rcases h with ⟨k, e, h⟩ | h
  · exact hD.2 k (q, e) h
  · exact hA q h
def okr (n : Nat) (v : Value) : Prop := ∀ i, v = .ref i → i < n ∨ 1000 ≤ i
theorem cv_okr {n : Nat} {v : Value} {ad ad' : Nat → Nat} (h : okr n v) (ha : ∀ i, (i < n ∨ 1000 ≤ i) → ad' i = ad i) : cv ad' v = cv ad v := by
  cases v with
  | ref i => simp only [cv]; rw [ha i (h i rfl)]
  | _ => rfl
section VC
variable {mt : MT} {sc : Option (Nat × (Nat → Int32))} {d nE : Nat} {Q : QT} {pc nx t ci k n : Nat} {c32 : Int32} {c64 : Int64} {L : Lc} {st rest : List Value} {I : I2} {J : J2} {F : F2}
theorem run_to {p : Program} {l : Launch} {e : Env} {R : Room} {s : State} {m : MethodId} {args : Array Value} {below : List Frame} {meth : Method} {c : Code} {D : va_G} {A : Nat → Prop} {n0 : Nat} {ad0 : Nat → Nat} {Qf : State → Prop} (X : Act mt sc d nE Q p l e R s m args below meth c D A n0 ad0 Qf)
    {cA : Nat → ClassId} {ad : Nat → Nat} {H : Heap} {locs : List Loc} {ls : Array Slot} (S : SF mt nE s D A n0 ad0 cA ad H locs ls L n I J F) {nX : Nat} {Q' : QT} {a : Array Value} {st0 : List Value} (hnX : n ≤ nX ∧ nX ≤ nE) (hrg : nX = n ∨ ((∀ q ∈ L, okr n q.2) ∧ ∀ v ∈ rest, okr n v))
    (hr : va_Run p l e R s m args below meth c H locs (n - n0) (sl n - sl n0) (nX - n) (sl nX - sl n) (F0 m pc ls st0) (rest.map (cv ad)) (Qg D n nX ad Q' (va_A (wl cA ad n I J F) H.size) a) (va_A (wl cA ad n I J F) H.size))
    (kk : ∀ rv I' J' F', Q' rv I' J' F' → V mt sc d nE Q (pc + 3) L (rv.toList ++ rest) nX I' J' F') : W p l e R s m args below meth c H locs (n - n0) (sl n - sl n0) Qf (F0 m pc ls st0) := by
  intro T hT X0
  obtain ⟨v, st₀, t, T', L2, h0, X', hL, e1, e2, ⟨⟨rv, I', J', F', cA', ad', hv, hq, hP', hK', hD', hwf', had'⟩, hz, hk⟩, stp⟩ := hr T hT X0
  cases hv
  rw [h0] at hz hk
  have hA := va_A_wl S.2.2.2.2.1 (fun q h => X.2.2.2.2.2.2.2.2.2.2.1 q (Nat.le_trans S.2.2.2.2.2.1.1 h))
  have hS : va_S A s.heap T'.heap (locs ++ L2) := ⟨Nat.le_trans S.2.2.2.2.2.1.1 (by rw [e1]; exact hz), fun q h1 h2 => by
      rw [e1, hk q (Nat.lt_of_lt_of_le h1 S.2.2.2.2.2.1.1) (fun z => h2 (hA q z))]
      exact S.2.2.2.2.2.1.2.1 q h1 h2, fun q hq => by
      rcases List.mem_append.mp hq with h | h
      · exact S.2.2.2.2.2.1.2.2 q h
      · exact hA _ (hL q h)⟩
  have hal : s.vm.Alike t.vm := by rw [← e2]; exact X'.warmed.alike
  have hcv : ∀ u, (nX = n ∨ okr n u) → cv ad' u = cv ad u := by
    intro u hu
    rcases hu with hu | hu
    · cases u with
      | ref i => simp only [cv]; rw [had' i (Or.inr (Or.inr hu))]
      | _ => rfl
    · exact cv_okr hu (fun i hi => had' i (hi.imp id Or.inl))
  have hLm : L.map (cvl ad') = L.map (cvl ad) := List.map_congr_left fun q hq => by
    simp only [cvl]
    rw [hcv q.2 (hrg.imp id (fun h => h.1 q hq))]
  have hRm : rest.map (cv ad') = rest.map (cv ad) := List.map_congr_left fun q hq => hcv q (hrg.imp id (fun h => h.2 q hq))
  have hn0 := S.1
  have hs1 := sl_mono S.1
  have hs2 := sl_mono hnX.1
  have ec : n - n0 + (nX - n) = nX - n0 := by omega
  have es : sl n - sl n0 + (sl nX - sl n) = sl nX - sl n0 := by omega
  rw [ec, es] at X'
  obtain ⟨t2, a1, b1⟩ := kk rv I' J' F' hq p l e R s m args below meth c D A n0 ad0 Qf X cA' ad' T'.heap (locs ++ L2) ls
    ⟨Nat.le_trans S.1 hnX.1, hnX.2, by rw [e1]; exact hP', hK'.moved (u := t) (U := s) hal.symm, ⟨hD'.1, fun k q hq => hA _ (hD'.2 k q hq)⟩, hS, hwf', fun i hi => by
      rcases hi with h | h | h
      · rw [had' i (Or.inl (Nat.lt_of_lt_of_le h S.1))]; exact S.2.2.2.2.2.2.2.1 i (Or.inl h)
      · rw [had' i (Or.inr (Or.inl h))]; exact S.2.2.2.2.2.2.2.1 i (Or.inr (Or.inl h))
      · have h1 : n = n0 := by omega
        rw [had' i (Or.inr (Or.inr (by omega)))]; exact S.2.2.2.2.2.2.2.1 i (Or.inr (Or.inr h1)), by rw [hLm]; exact S.lv⟩ T' rfl X'
  refine ⟨t2, stp t2 ?_, b1⟩
  have e3 : (rv.toList ++ rest).map (cv ad') = (rv.map (cv ad')).toList ++ rest.map (cv ad) := by
    rw [List.map_append, hRm]
    cases rv <;> rfl
  rw [e3] at a1
  exact a1
theorem tblG_good {w : Cond} (h : w ∈ tblG) : goodWord w = true := (List.mem_filter.mp h).2
theorem wsY_good {mt' : MT} (h : okM mt' = true) : GoodIn tblG (wsY mt') := by
  intro w hw
  obtain ⟨own, y, cc, nL, ret, wi, tbl⟩ := mt'
  simp only [okM, Bool.and_eq_true, decide_eq_true_eq] at h
  rcases List.mem_cons.mp hw with rfl | hw
  · exact ⟨gAt_mem h.2.2.2.1, good_of_word (tblG_good (gAt_mem h.2.2.2.1))⟩
  · exact ⟨hw, good_of_word (tblG_good hw)⟩
theorem Bf_here {mt' : MT} {p : Program} {l : Launch} {e : Env} {R : Room} {s : State} {m : MethodId} {args : Array Value} {below : List Frame} {meth : Method} {c : Code} {D : va_G} {A : Nat → Prop} {n0 : Nat} {ad0 : Nat → Nat} {Qf : State → Prop} (X : Act mt sc d nE Q p l e R s m args below meth c D A n0 ad0 Qf)
    {cA : Nat → ClassId} {ad : Nat → Nat} {H : Heap} {locs : List Loc} {ls : Array Slot} (S : SF mt nE s D A n0 ad0 cA ad H locs ls L n I J F) {U : State} (hU : U.heap = H) (hW : s.WarmedH U.vm) : Bf D cA ad H.size n I J F U := by
  have hA := va_A_wl S.2.2.2.2.1 (fun q h => X.2.2.2.2.2.2.2.2.2.2.1 q (Nat.le_trans S.2.2.2.2.2.1.1 h))
  have hE := X.2.2.2.2.2.2.2.2.2.1.to S.2.2.2.2.2.1 hU hW hA
  refine ⟨by rw [hU], by rw [hU]; exact S.P, S.2.2.2.1.moved hW.alike, ⟨S.2.2.2.2.1.1, fun _ _ _ => trivial⟩, ?_, S.2.2.2.2.2.2.1⟩
  obtain ⟨h1, h2, h3, ⟨v, hv, h4⟩, h5⟩ := hE
  have ha : ∀ i, 1000 ≤ i → ad i = ad0 i := fun i hi => S.2.2.2.2.2.2.2.1 i (Or.inr (Or.inl hi))
  refine ⟨?_, fun i hi => by rw [ha _ (by omega)]; exact h2 i hi, h3, ⟨v, hv, ?_⟩, h5⟩
  · rw [show (fun i => ad (1000 + i)) = (fun i => ad0 (1000 + i)) from funext fun i => ha _ (by omega), show (fun i => ad (2000 + i)) = (fun i => ad0 (2000 + i)) from funext fun i => ha _ (by omega)]
    exact h1
  · rcases hv with rfl | rfl
    · exact h4
    · rw [cv_ref, ha _ (by omega)]; exact h4
theorem lnk_use {own : String} {idx : Nat} {y : MethodName} (h : lnk own idx y) {s : State} {args : Array Value} (hts : ∀ w ∈ tblG, w.before args s = true) (hn : ∀ w ∈ tblN, va_Nw w s) : (Cond.methodLink own idx y).before args s = true ∨ va_Nw (.methodLinkNest own idx y hostN) s := h.imp (hts _) (hn _)
theorem sum_cv (ad : Nat → Nat) (st : List Value) : ((st.map (cv ad)).map fun v => v.category).sum = (st.map fun v => v.category).sum := by
  rw [List.map_map]
  congr 1
  exact List.map_congr_left fun v _ => cv_cat ad v
/-- a receiver's class -/
def Rcv (mt : MT) (sc : Option (Nat × (Nat → Int32))) (d nE : Nat) (Q : QT) (n : Nat) (L : Lc) (I : I2) (J : J2) (F : F2) (o : Nat) (C : String) : Prop :=
  ∀ (p : Program) (l : Launch) (e : Env) (R : Room) (s : State) (m : MethodId) (args : Array Value) (below : List Frame) (meth : Method) (c : Code) (D : va_G) (A : Nat → Prop) (n0 : Nat) (ad0 : Nat → Nat) (Qf : State → Prop), Act mt sc d nE Q p l e R s m args below meth c D A n0 ad0 Qf →
  ∀ (cA : Nat → ClassId) (ad : Nat → Nat) (H : Heap) (locs : List Loc) (ls : Array Slot), SF mt nE s D A n0 ad0 cA ad H locs ls L n I J F → ∃ cellB : Cell, H[ad o]? = some cellB ∧ cellB.vm.isStatics = false ∧ s.vm.findClass C = some cellB.cls
theorem Rcv.obj {o ci' : Nat} {C : String} (hKD : KD o = .inl ci') (hcl : (nCl ci').1 = C) (h7 : ci' < 7) (hon : o < n) : Rcv mt sc d nE Q n L I J F o C := by
  intro p l e R s m args below meth c D A n0 ad0 Qf X cA ad H locs ls S
  rw [← hcl]
  exact va_recv S.2.2.2.1.K0 S.P (nCl_get h7) (wl_obj hon hKD)
theorem Rcv.str {i : Nat} (hi : i < 12) : Rcv mt sc d nE Q n L I J F (1000 + i) "java/lang/String" := by
  intro p l e R s m args below meth c D A n0 ad0 Qf X cA ad H locs ls S
  have h := vk_recv X.2.2.2.2.2.2.2.2.2.1.1 hi S.2.2.2.2.2.1
  rw [S.2.2.2.2.2.2.2.1 (1000 + i) (Or.inr (Or.inl (by omega)))]
  exact h
/-- a virtual call (of a method of that class, or a private one of a nest mate) -/
theorem V_callV0 {mt' : MT} {z o na wini winst wsel d' nX : Nat} {As : List Value} {Q' : QT} (he : fE mt.2.2.2.2.2.2 pc = some (pc, .invokevirtual z, nx, t, c32, c64, ci, k)) (hl : lnk mt.1 z mt'.2.1) (hy : okYv mt' na wini winst wsel = true) (hst : st = As.reverse ++ .ref o :: rest) (hna : As.length = na) (hrec : Rcv mt sc d nE Q n L I J F o mt'.2.1.cls)
    (hC : CT mt' d' n nX (.ref o :: As) I J F Q') (hd' : d' + 1 ≤ d) (hsum : (rest.map fun v => v.category).sum ≤ 8) (hnX : n ≤ nX ∧ nX ≤ nE) (hrg : nX = n ∨ ((∀ q ∈ L, okr n q.2) ∧ ∀ v ∈ rest, okr n v))
    (kk : ∀ rv I' J' F', Q' rv I' J' F' → V mt sc d nE Q nx L (rv.toList ++ rest) nX I' J' F') : V mt sc d nE Q pc L st n I J F := by
  intro p l e R s m args below meth c D A n0 ad0 Qf X cA ad H locs ls S
  obtain ⟨hd, hn, -⟩ := row_of X.2.2.1 he rfl
  subst hn
  subst hst
  simp only [okYv, okY, Bool.and_eq_true, decide_eq_true_eq] at hy
  obtain ⟨hok', ⟨hini, hnm, hpar⟩, hinst, hsel⟩ := hy
  have hts := X.2.2.2.2.2.2.2.2.1
  have hEn := X.2.2.2.2.2.2.2.2.2.1
  have hR := X.2.2.2.2.2.2.2.2.2.2.2.1
  have hn0 := S.1
  have hs1 := sl_mono S.1
  have hs2 := sl_mono hnX.1
  have hs3 := sl_mono hnX.2
  have hnL : mt'.2.2.2.1 ≤ 21 := by
    obtain ⟨own, y, cc, nL, ret, wi, tbl⟩ := mt'
    simp only [okM, Bool.and_eq_true, decide_eq_true_eq] at hok'
    exact hok'.2.2.1
  have hM := hC l D cA ad H.size
  rw [List.map_cons, cv_ref] at hM
  have hroom : (rmD d' n nX).frames + 1 ≤ R.frames ∧ 8 + (mt'.2.2.2.1 + 11) + (rmD d' n nX).locals ≤ R.locals := by
    refine ⟨?_, ?_⟩
    · show d' + 1 ≤ R.frames
      omega
    · show 8 + (mt'.2.2.2.1 + 11) + 40 * d' ≤ R.locals
      omega
  have hstk : ((As.reverse ++ .ref o :: rest).map (cv ad)) = (As.map (cv ad)).reverse ++ .ref (ad o) :: rest.map (cv ad) := by simp [cv_ref]
  rw [hstk]
  have hpre : PreV s H mt'.2.1.cls (ad o) (va_Pc (.ref (ad o) :: As.map (cv ad)) (Bf D cA ad H.size n I J F)) (As.map (cv ad)) :=
    ⟨Bf_blind, hrec p l e R s m args below meth c D A n0 ad0 Qf X cA ad H locs ls S, fun U hU hW => ⟨rfl, Bf_here (mt' := mt') X S hU hW⟩⟩
  have hcells : n - n0 + (nX - n) ≤ R.cells ∧ sl n - sl n0 + (sl nX - sl n) ≤ R.slots := by
    have h1 := hR.2.2.1
    have h2 := hR.2.2.2
    have h3 := hnX.2
    omega
  have hfix : CallFix p m c mt.2.2.1 mt.2.2.2.1 s args tblG mt.1 := ⟨X.1, X.2.1, X.2.2.2.2.2.1, X.2.2.2.2.2.2.1, hts⟩
  have hiw := hts _ (gAt_mem hini)
  refine run_to (rest := rest) (a := (Value.ref (ad o) :: As.map (cv ad)).toArray) X S hnX hrg ?_ kk
  rcases lnk_use hl hts hEn.2.2.2.2 with hw | hw
  · exact va_runV (n := na) hfix hM ⟨callB_of na hts (wsY_good hok') rfl rfl rfl hiw hw ⟨hnm.1, hnm.2, hpar⟩ hroom, hts _ (gAt_mem hinst), hts _ (gAt_mem hsel)⟩ hpre rfl (by rw [List.length_map]; exact hna) S.lv.1 rfl (lv_room (by rw [sum_cv]; exact hsum)) hd hcells
  · exact va_runVN (n := na) hfix hM ⟨va_cnB na hts (wsY_good hok') rfl rfl rfl hw hiw ⟨hnm.1, hnm.2, hpar⟩ hroom, hts _ (gAt_mem hinst), hts _ (gAt_mem hsel)⟩ hpre rfl (by rw [List.length_map]; exact hna) S.lv.1 rfl (lv_room (by rw [sum_cv]; exact hsum)) hd hcells
theorem V_callV {mt' : MT} {z o na wini winst wsel d' nX ci' : Nat} {As : List Value} {Q' : QT} (he : fE mt.2.2.2.2.2.2 pc = some (pc, .invokevirtual z, nx, t, c32, c64, ci, k)) (hl : lnk mt.1 z mt'.2.1) (hy : okYv mt' na wini winst wsel = true) (hst : st = As.reverse ++ .ref o :: rest) (hna : As.length = na) (hKD : KD o = .inl ci') (hcl : (nCl ci').1 = mt'.2.1.cls) (h7 : ci' < 7) (hon : o < n)
    (hC : CT mt' d' n nX (.ref o :: As) I J F Q') (hd' : d' + 1 ≤ d) (hsum : (rest.map fun v => v.category).sum ≤ 8) (hnX : n ≤ nX ∧ nX ≤ nE) (hrg : nX = n ∨ ((∀ q ∈ L, okr n q.2) ∧ ∀ v ∈ rest, okr n v))
    (kk : ∀ rv I' J' F', Q' rv I' J' F' → V mt sc d nE Q nx L (rv.toList ++ rest) nX I' J' F') : V mt sc d nE Q pc L st n I J F :=
  V_callV0 he hl hy hst hna (Rcv.obj hKD hcl h7 hon) hC hd' hsum hnX hrg kk
theorem V_callS {mt' : MT} {z na wini wstat d' nX : Nat} {As : List Value} {Q' : QT} (he : fE mt.2.2.2.2.2.2 pc = some (pc, .invokestatic z, nx, t, c32, c64, ci, k)) (hl : lnk mt.1 z mt'.2.1) (hy : okYs mt' na wini wstat = true) (hst : st = As.reverse ++ rest) (hna : As.length = na)
    (hC : CT mt' d' n nX As I J F Q') (hd' : d' + 1 ≤ d) (hsum : (rest.map fun v => v.category).sum ≤ 8) (hnX : n ≤ nX ∧ nX ≤ nE) (hrg : nX = n ∨ ((∀ q ∈ L, okr n q.2) ∧ ∀ v ∈ rest, okr n v))
    (kk : ∀ rv I' J' F', Q' rv I' J' F' → V mt sc d nE Q nx L (rv.toList ++ rest) nX I' J' F') : V mt sc d nE Q pc L st n I J F := by
  intro p l e R s m args below meth c D A n0 ad0 Qf X cA ad H locs ls S
  obtain ⟨hd, hn, -⟩ := row_of X.2.2.1 he rfl
  subst hn
  subst hst
  simp only [okYs, okY, Bool.and_eq_true, decide_eq_true_eq] at hy
  obtain ⟨hok', ⟨hini, hnm, hpar⟩, hstat⟩ := hy
  have hts := X.2.2.2.2.2.2.2.2.1
  have hEn := X.2.2.2.2.2.2.2.2.2.1
  have hR := X.2.2.2.2.2.2.2.2.2.2.2.1
  have hn0 := S.1
  have hs1 := sl_mono S.1
  have hs2 := sl_mono hnX.1
  have hs3 := sl_mono hnX.2
  have hnL : mt'.2.2.2.1 ≤ 21 := by
    obtain ⟨own, y, cc, nL, ret, wi, tbl⟩ := mt'
    simp only [okM, Bool.and_eq_true, decide_eq_true_eq] at hok'
    exact hok'.2.2.1
  have hM := hC l D cA ad H.size
  have hroom : (rmD d' n nX).frames + 1 ≤ R.frames ∧ 8 + (mt'.2.2.2.1 + 11) + (rmD d' n nX).locals ≤ R.locals := by
    refine ⟨?_, ?_⟩
    · show d' + 1 ≤ R.frames
      omega
    · show 8 + (mt'.2.2.2.1 + 11) + 40 * d' ≤ R.locals
      omega
  have hstk : ((As.reverse ++ rest).map (cv ad)) = (As.map (cv ad)).reverse ++ rest.map (cv ad) := by simp
  rw [hstk]
  have hpre : PreS s H (va_Pc (As.map (cv ad)) (Bf D cA ad H.size n I J F)) (As.map (cv ad)) :=
    ⟨Bf_blind, fun U hU hW => ⟨rfl, Bf_here (mt' := mt') X S hU hW⟩⟩
  have hcells : n - n0 + (nX - n) ≤ R.cells ∧ sl n - sl n0 + (sl nX - sl n) ≤ R.slots := by
    have h1 := hR.2.2.1
    have h2 := hR.2.2.2
    have h3 := hnX.2
    omega
  have hfix : CallFix p m c mt.2.2.1 mt.2.2.2.1 s args tblG mt.1 := ⟨X.1, X.2.1, X.2.2.2.2.2.1, X.2.2.2.2.2.2.1, hts⟩
  have hiw := hts _ (gAt_mem hini)
  refine run_to (rest := rest) (a := (As.map (cv ad)).toArray) X S hnX hrg ?_ kk
  rcases lnk_use hl hts hEn.2.2.2.2 with hw | hw
  · exact va_runS (n := na) hfix hM ⟨callB_of na hts (wsY_good hok') rfl rfl rfl hiw hw ⟨hnm.1, hnm.2, hpar⟩ hroom, hts _ (gAt_mem hstat)⟩ hpre rfl (by rw [List.length_map]; exact hna) S.lv.1 rfl (lv_room (by rw [sum_cv]; exact hsum)) hd hcells
  · exact va_runSN (n := na) hfix hM ⟨va_cnB na hts (wsY_good hok') rfl rfl rfl hw hiw ⟨hnm.1, hnm.2, hpar⟩ hroom, hts _ (gAt_mem hstat), trivial⟩ hpre rfl (by rw [List.length_map]; exact hna) S.lv.1 rfl (lv_room (by rw [sum_cv]; exact hsum)) hd hcells
theorem V_callI {mt' : MT} {z o na wini winst d' nX : Nat} {As : List Value} {Q' : QT} (he : fE mt.2.2.2.2.2.2 pc = some (pc, .invokespecial z, nx, t, c32, c64, ci, k)) (hl : lnk mt.1 z mt'.2.1) (hy : okYi mt' na wini winst = true) (hst : st = As.reverse ++ .ref o :: rest) (hna : As.length = na)
    (hC : CT mt' d' n nX (.ref o :: As) I J F Q') (hd' : d' + 1 ≤ d) (hsum : (rest.map fun v => v.category).sum ≤ 8) (hnX : n ≤ nX ∧ nX ≤ nE) (hrg : nX = n ∨ ((∀ q ∈ L, okr n q.2) ∧ ∀ v ∈ rest, okr n v))
    (kk : ∀ rv I' J' F', Q' rv I' J' F' → V mt sc d nE Q nx L (rv.toList ++ rest) nX I' J' F') : V mt sc d nE Q pc L st n I J F := by
  intro p l e R s m args below meth c D A n0 ad0 Qf X cA ad H locs ls S
  obtain ⟨hd, hn, -⟩ := row_of X.2.2.1 he rfl
  subst hn
  subst hst
  obtain ⟨own', y', cc', nL', ret', wi', tbl'⟩ := mt'
  simp only [okYi, okY, Bool.and_eq_true, decide_eq_true_eq] at hy
  obtain ⟨hok', ⟨hini, hnm, hpar⟩, hinst, hname, hret⟩ := hy
  subst hret
  have hts := X.2.2.2.2.2.2.2.2.1
  have hEn := X.2.2.2.2.2.2.2.2.2.1
  have hR := X.2.2.2.2.2.2.2.2.2.2.2.1
  have hn0 := S.1
  have hs1 := sl_mono S.1
  have hs2 := sl_mono hnX.1
  have hs3 := sl_mono hnX.2
  have hnL : nL' ≤ 21 := by
    simp only [okM, Bool.and_eq_true, decide_eq_true_eq] at hok'
    exact hok'.2.2.1
  have hM := hC l D cA ad H.size
  rw [List.map_cons, cv_ref] at hM
  have hroom : (rmD d' n nX).frames + 1 ≤ R.frames ∧ 8 + (nL' + 11) + (rmD d' n nX).locals ≤ R.locals := by
    refine ⟨?_, ?_⟩
    · show d' + 1 ≤ R.frames
      omega
    · show 8 + (nL' + 11) + 40 * d' ≤ R.locals
      omega
  have hstk : ((As.reverse ++ .ref o :: rest).map (cv ad)) = (As.map (cv ad)).reverse ++ .ref (ad o) :: rest.map (cv ad) := by simp [cv_ref]
  rw [hstk]
  have hpre : PreS s H (va_Pc (.ref (ad o) :: As.map (cv ad)) (Bf D cA ad H.size n I J F)) (.ref (ad o) :: As.map (cv ad)) :=
    ⟨Bf_blind, fun U hU hW => ⟨rfl, Bf_here (mt' := (own', y', cc', nL', none, wi', tbl')) X S hU hW⟩⟩
  have hcells : n - n0 + (nX - n) ≤ R.cells ∧ sl n - sl n0 + (sl nX - sl n) ≤ R.slots := by
    have h1 := hR.2.2.1
    have h2 := hR.2.2.2
    have h3 := hnX.2
    omega
  have hfix : CallFix p m c mt.2.2.1 mt.2.2.2.1 s args tblG mt.1 := ⟨X.1, X.2.1, X.2.2.2.2.2.1, X.2.2.2.2.2.2.1, hts⟩
  have hiw := hts _ (gAt_mem hini)
  refine run_to (rest := rest) (a := (Value.ref (ad o) :: As.map (cv ad)).toArray) X S hnX hrg ?_ kk
  rcases lnk_use hl hts hEn.2.2.2.2 with hw | hw
  · exact va_runI (n := na) hfix hM ⟨callB_of na hts (wsY_good hok') rfl rfl rfl hiw hw ⟨hnm.1, hnm.2, hpar⟩ hroom, hname, hts _ (gAt_mem hinst)⟩ hpre rfl (by rw [List.length_map]; exact hna) S.lv.1 rfl (lv_room (by rw [sum_cv]; exact hsum)) hd hcells
  · exact va_runIN (n := na) hfix hM ⟨va_cnB na hts (wsY_good hok') rfl rfl rfl hw hiw ⟨hnm.1, hnm.2, hpar⟩ hroom, hname, hts _ (gAt_mem hinst)⟩ hpre rfl (by rw [List.length_map]; exact hna) S.lv.1 rfl (lv_room (by rw [sum_cv]; exact hsum)) hd hcells
end VC
end
section
abbrev ST : Type := Nat × Lc × List Value × I2 × J2 × F2
section VT
variable {mt : MT} {sc : Option (Nat × (Nat → Int32))} {d nE : Nat} {Q : QT} {pc nx t ci k n : Nat} {c32 : Int32} {c64 : Int64} {L : Lc} {st : List Value} {I : I2} {J : J2} {F : F2}
theorem V_ldcS {z : Nat} (he : fE mt.2.2.2.2.2.2 pc = some (pc, .ldc z, nx, t, c32, c64, ci, k)) (hci : ci = 99) (kk : V mt sc d nE Q nx L (.ref k :: st) n I J F) : V mt sc d nE Q pc L st n I J F := by
  intro p l e R s m args below meth c D A n0 ad0 Qf X cA ad H locs ls S
  obtain ⟨hd, hn, ho⟩ := row_of X.2.2.1 he rfl
  subst hn
  subst hci
  simp only [okI, if_true, Bool.and_eq_true, decide_eq_true_eq, beq_iff_eq] at ho
  obtain ⟨h1, h2, h3, h4⟩ := ho
  have hk := kk p l e R s m args below meth c D A n0 ad0 Qf X cA ad H locs ls S
  have hR := X.2.2.2.2.2.2.2.2.2.1.2.1 (k - 1000) (by omega)
  rw [h4, show 1000 + (k - 1000) = k by omega, ← S.2.2.2.2.2.2.2.1 k (Or.inr (Or.inl h1)), ← h3] at hR
  exact va_ldcS X.1 X.2.1 X.2.2.2.2.2.2.1 hR hd hk
/-- a step of straight code -/
def stI (ins : Instr) (nx t : Nat) (c32 : Int32) (c64 : Int64) (ci k n : Nat) (L : Lc) (st : List Value) (I : I2) (J : J2) (F : F2) : Option ST := match ins with
    | .iconst _ => some (nx, L, .int c32 :: st, I, J, F)
    | .bipush _ => some (nx, L, .int c32 :: st, I, J, F)
    | .sipush _ => some (nx, L, .int c32 :: st, I, J, F)
    | .lconst _ => some (nx, L, .long c64 :: st, I, J, F)
    | .ldc _ => match Nat.beq ci 99 with
      | false => some (nx, L, .int c32 :: st, I, J, F)
      | true => some (nx, L, .ref k :: st, I, J, F)
    | .ldc_w _ => some (nx, L, .int c32 :: st, I, J, F)
    | .ldc2_w _ => some (nx, L, .long c64 :: st, I, J, F)
    | .iload_n _ => match lkL L k with
      | some (.int x) => some (nx, L, .int x :: st, I, J, F)
      | _ => none
    | .istore_n _ => match st with
      | .int x :: st => match frc (put1 L k (.int x)) with
        | some L2 => some (nx, L2, st, I, J, F)
        | none => none
      | _ => none
    | .iload _ => match lkL L k with
      | some (.int x) => some (nx, L, .int x :: st, I, J, F)
      | _ => none
    | .istore _ => match st with
      | .int x :: st => match frc (put1 L k (.int x)) with
        | some L2 => some (nx, L2, st, I, J, F)
        | none => none
      | _ => none
    | .lload_n _ => match lkL L k with
      | some (.long x) => some (nx, L, .long x :: st, I, J, F)
      | _ => none
    | .lstore_n _ => match st with
      | .long x :: st => match frc (put2 L k (.long x)) with
        | some L2 => some (nx, L2, st, I, J, F)
        | none => none
      | _ => none
    | .lload _ => match lkL L k with
      | some (.long x) => some (nx, L, .long x :: st, I, J, F)
      | _ => none
    | .lstore _ => match st with
      | .long x :: st => match frc (put2 L k (.long x)) with
        | some L2 => some (nx, L2, st, I, J, F)
        | none => none
      | _ => none
    | .aload_n _ => match lkL L k with
      | some (.ref x) => some (nx, L, .ref x :: st, I, J, F)
      | _ => none
    | .astore_n _ => match st with
      | .ref x :: st => match frc (put1 L k (.ref x)) with
        | some L2 => some (nx, L2, st, I, J, F)
        | none => none
      | _ => none
    | .aload _ => match lkL L k with
      | some (.ref x) => some (nx, L, .ref x :: st, I, J, F)
      | _ => none
    | .astore _ => match st with
      | .ref x :: st => match frc (put1 L k (.ref x)) with
        | some L2 => some (nx, L2, st, I, J, F)
        | none => none
      | _ => none
    | .iinc z _ => match lkL L z with
      | some (.int x) => match frc (put1 L z (.int (x + c32))) with
        | some L2 => some (nx, L2, st, I, J, F)
        | none => none
      | _ => none
    | .iadd => match st with
      | .int y :: .int x :: st => some (nx, L, .int (x + y) :: st, I, J, F)
      | _ => none
    | .isub => match st with
      | .int y :: .int x :: st => some (nx, L, .int (x - y) :: st, I, J, F)
      | _ => none
    | .imul => match st with
      | .int y :: .int x :: st => some (nx, L, .int (x * y) :: st, I, J, F)
      | _ => none
    | .iand => match st with
      | .int y :: .int x :: st => some (nx, L, .int (x &&& y) :: st, I, J, F)
      | _ => none
    | .ior => match st with
      | .int y :: .int x :: st => some (nx, L, .int (x ||| y) :: st, I, J, F)
      | _ => none
    | .ixor => match st with
      | .int y :: .int x :: st => some (nx, L, .int (x ^^^ y) :: st, I, J, F)
      | _ => none
    | .ishl => match st with
      | .int y :: .int x :: st => some (nx, L, .int (x <<< (y &&& 31)) :: st, I, J, F)
      | _ => none
    | .ishr => match st with
      | .int y :: .int x :: st => some (nx, L, .int (x >>> (y &&& 31)) :: st, I, J, F)
      | _ => none
    | .iushr => match st with
      | .int y :: .int x :: st => some (nx, L, .int (iushrV x y) :: st, I, J, F)
      | _ => none
    | .ladd => match st with
      | .long y :: .long x :: st => some (nx, L, .long (x + y) :: st, I, J, F)
      | _ => none
    | .lsub => match st with
      | .long y :: .long x :: st => some (nx, L, .long (x - y) :: st, I, J, F)
      | _ => none
    | .lmul => match st with
      | .long y :: .long x :: st => some (nx, L, .long (x * y) :: st, I, J, F)
      | _ => none
    | .ineg => match st with
      | .int x :: st => some (nx, L, .int (-x) :: st, I, J, F)
      | _ => none
    | .lushr => match st with
      | .int y :: .long x :: st => some (nx, L, .long (lushrV x y) :: st, I, J, F)
      | _ => none
    | .i2l => match st with
      | .int x :: st => some (nx, L, .long x.toInt64 :: st, I, J, F)
      | _ => none
    | .l2i => match st with
      | .long x :: st => some (nx, L, .int x.toInt32 :: st, I, J, F)
      | _ => none
    | .i2b => match st with
      | .int x :: st => some (nx, L, .int (i2bV x) :: st, I, J, F)
      | _ => none
    | .i2s => match st with
      | .int x :: st => some (nx, L, .int (i2sV x) :: st, I, J, F)
      | _ => none
    | .i2c => match st with
      | .int x :: st => some (nx, L, .int (i2cV x) :: st, I, J, F)
      | _ => none
    | .lcmp => match st with
      | .long y :: .long x :: st => some (nx, L, .int (lg_cmp x y) :: st, I, J, F)
      | _ => none
    | .dup => match st with
      | .int x :: st => some (nx, L, .int x :: .int x :: st, I, J, F)
      | .ref x :: st => some (nx, L, .ref x :: .ref x :: st, I, J, F)
      | _ => none
    | .pop => match st with
      | .int x :: st => some (nx, L, st, I, J, F)
      | .ref x :: st => some (nx, L, st, I, J, F)
      | _ => none
    | .dup_x1 => match st with
      | .int x :: .ref y :: st => some (nx, L, .int x :: .ref y :: .int x :: st, I, J, F)
      | _ => none
    | .dup2 => match st with
      | .int x :: .ref y :: st => some (nx, L, .int x :: .ref y :: .int x :: .ref y :: st, I, J, F)
      | _ => none
    | .goto _ => some (t, L, st, I, J, F)
    | .getfield _ => match st with
      | .ref o :: st => match KD o with
        | .inl c => match Nat.beq c ci with
          | true => match Nat.blt o n with
            | true => match fv I J F o k (tyF ci k) with
              | .int x => some (nx, L, .int x :: st, I, J, F)
              | .long x => some (nx, L, .long x :: st, I, J, F)
              | .ref x => some (nx, L, .ref x :: st, I, J, F)
              | _ => none
            | false => none
          | false => none
        | .inr _ => none
      | _ => none
    | .putfield _ => match st with
      | .int x :: .ref o :: st => match KD o with
        | .inl c => match Nat.beq c ci with
          | true => match Nat.blt o n with
            | true => match tyF ci k with
              | .int => match ((nCl ci).2.1 k).2.2.2 with
                | false => some (nx, L, st, up2 I o k x, J, F)
                | true => none
              | _ => none
            | false => none
          | false => none
        | .inr _ => none
      | .long x :: .ref o :: st => match KD o with
        | .inl c => match Nat.beq c ci with
          | true => match Nat.blt o n with
            | true => match tyF ci k with
              | .long => match ((nCl ci).2.1 k).2.2.2 with
                | false => some (nx, L, st, I, up2 J o k x, F)
                | true => none
              | _ => none
            | false => none
          | false => none
        | .inr _ => none
      | _ => none
    | .arraylength => match st with
      | .ref o :: st => match KD o with
        | .inr (len, _) => match Nat.blt o n with
          | true => some (nx, L, .int (Int32.ofNat len) :: st, I, J, F)
          | false => none
        | .inl _ => none
      | _ => none
    | _ => none
set_option maxHeartbeats 4000000 in
theorem stI_ok {ins : Instr} {s2 : ST} (he : fE mt.2.2.2.2.2.2 pc = some (pc, ins, nx, t, c32, c64, ci, k)) (h : stI ins nx t c32 c64 ci k n L st I J F = some s2) (kk : V mt sc d nE Q s2.1 s2.2.1 s2.2.2.1 n s2.2.2.2.1 s2.2.2.2.2.1 s2.2.2.2.2.2) : V mt sc d nE Q pc L st n I J F := by
  unfold stI at h
  split at h
  · cases h; exact V_iconst he kk
  · cases h; exact V_bipush he kk
  · cases h; exact V_sipush he kk
  · cases h; exact V_lconst he kk
  · split at h
    · rename_i hb
      cases h; exact V_ldc he (beq_f hb) kk
    · rename_i hb
      cases h; exact V_ldcS he (Nat.eq_of_beq_eq_true hb) kk
  · cases h; exact V_ldc_w he kk
  · cases h; exact V_ldc2_w he kk
  · split at h
    · rename_i hl
      cases h; exact V_iload_n he hl kk
    · cases h
  · split at h
    · split at h
      · rename_i hf
        cases h; rw [frc_eq hf] at kk; exact V_istore_n he kk
      · cases h
    · cases h
  · split at h
    · rename_i hl
      cases h; exact V_iload he hl kk
    · cases h
  · split at h
    · split at h
      · rename_i hf
        cases h; rw [frc_eq hf] at kk; exact V_istore he kk
      · cases h
    · cases h
  · split at h
    · rename_i hl
      cases h; exact V_lload_n he hl kk
    · cases h
  · split at h
    · split at h
      · rename_i hf
        cases h; rw [frc_eq hf] at kk; exact V_lstore_n he kk
      · cases h
    · cases h
  · split at h
    · rename_i hl
      cases h; exact V_lload he hl kk
    · cases h
  · split at h
    · split at h
      · rename_i hf
        cases h; rw [frc_eq hf] at kk; exact V_lstore he kk
      · cases h
    · cases h
  · split at h
    · rename_i hl
      cases h; exact V_aload_n he hl kk
    · cases h
  · split at h
    · split at h
      · rename_i hf
        cases h; rw [frc_eq hf] at kk; exact V_astore_n he kk
      · cases h
    · cases h
  · split at h
    · rename_i hl
      cases h; exact V_aload he hl kk
    · cases h
  · split at h
    · split at h
      · rename_i hf
        cases h; rw [frc_eq hf] at kk; exact V_astore he kk
      · cases h
    · cases h
  · split at h
    · rename_i hl
      split at h
      · rename_i hf
        cases h; rw [frc_eq hf] at kk; exact V_iinc he hl kk
      · cases h
    · cases h
  · split at h
    · cases h; exact V_iadd he kk
    · cases h
  · split at h
    · cases h; exact V_isub he kk
    · cases h
  · split at h
    · cases h; exact V_imul he kk
    · cases h
  · split at h
    · cases h; exact V_iand he kk
    · cases h
  · split at h
    · cases h; exact V_ior he kk
    · cases h
  · split at h
    · cases h; exact V_ixor he kk
    · cases h
  · split at h
    · cases h; exact V_ishl he kk
    · cases h
  · split at h
    · cases h; exact V_ishr he kk
    · cases h
  · split at h
    · cases h; exact V_iushr he kk
    · cases h
  · split at h
    · cases h; exact V_ladd he kk
    · cases h
  · split at h
    · cases h; exact V_lsub he kk
    · cases h
  · split at h
    · cases h; exact V_lmul he kk
    · cases h
  · split at h
    · cases h; exact V_ineg he kk
    · cases h
  · split at h
    · cases h; exact V_lushr he kk
    · cases h
  · split at h
    · cases h; exact V_i2l he kk
    · cases h
  · split at h
    · cases h; exact V_l2i he kk
    · cases h
  · split at h
    · cases h; exact V_i2b he kk
    · cases h
  · split at h
    · cases h; exact V_i2s he kk
    · cases h
  · split at h
    · cases h; exact V_i2c he kk
    · cases h
  · split at h
    · cases h; exact V_lcmp he kk
    · cases h
  · split at h
    · cases h; exact V_dup he rfl kk
    · cases h; exact V_dup he rfl kk
    · cases h
  · split at h
    · cases h; exact V_pop he rfl kk
    · cases h; exact V_pop he rfl kk
    · cases h
  · split at h
    · cases h; exact V_dup_x1 he rfl rfl kk
    · cases h
  · split at h
    · cases h; exact V_dup2 he rfl rfl kk
    · cases h
  · cases h; exact V_goto he kk
  · split at h
    · split at h
      · rename_i hK
        split at h
        · rename_i hc
          have hc2 := Nat.eq_of_beq_eq_true hc
          subst hc2
          split at h
          · rename_i hb
            split at h
            · rename_i hv
              cases h; exact V_get he hK (Nat.blt_eq.mp hb) (hv ▸ kk)
            · rename_i hv
              cases h; exact V_get he hK (Nat.blt_eq.mp hb) (hv ▸ kk)
            · rename_i hv
              cases h; exact V_get he hK (Nat.blt_eq.mp hb) (hv ▸ kk)
            · cases h
          · cases h
        · cases h
      · cases h
    · cases h
  · split at h
    · split at h
      · rename_i hK
        split at h
        · rename_i hc
          have hc2 := Nat.eq_of_beq_eq_true hc
          subst hc2
          split at h
          · rename_i hb
            split at h
            · rename_i hv
              split at h
              · rename_i hf
                cases h; exact V_putI he hK (Nat.blt_eq.mp hb) hf hv kk
              · cases h
            · cases h
          · cases h
        · cases h
      · cases h
    · split at h
      · rename_i hK
        split at h
        · rename_i hc
          have hc2 := Nat.eq_of_beq_eq_true hc
          subst hc2
          split at h
          · rename_i hb
            split at h
            · rename_i hv
              split at h
              · rename_i hf
                cases h; exact V_putJ he hK (Nat.blt_eq.mp hb) hf hv kk
              · cases h
            · cases h
          · cases h
        · cases h
      · cases h
    · cases h
  · split at h
    · split at h
      · rename_i hK
        split at h
        · rename_i hb
          cases h; exact V_alen he (ty := _) (len := _) hK (Nat.blt_eq.mp hb) rfl kk
        · cases h
      · cases h
    · cases h
  · cases h
def stps (tbl : List E8) (n : Nat) (f : Nat) (s : ST) : Option ST := match f with
  | 0 => some s
  | f + 1 => match s with
    | (pc, L, st, I, J, F) => match fE tbl pc with
      | some (_, ins, nx, t, c32, c64, ci, k) => match stI ins nx t c32 c64 ci k n L st I J F with
        | some s2 => stps tbl n f s2
        | none => none
      | none => none
theorem V_run (f : Nat) {s2 : ST} (h : stps mt.2.2.2.2.2.2 n f (pc, L, st, I, J, F) = some s2) (kk : V mt sc d nE Q s2.1 s2.2.1 s2.2.2.1 n s2.2.2.2.1 s2.2.2.2.2.1 s2.2.2.2.2.2) : V mt sc d nE Q pc L st n I J F := by
  induction f generalizing pc L st I J F with
  | zero => simp only [stps] at h; cases h; exact kk
  | succ f ih =>
    unfold stps at h
    simp only at h
    split at h
    · rename_i pc' ins nx t c32 c64 ci k he
      split at h
      · rename_i s1 h1
        have e := (fE_mem he).2
        simp only at e
        subst e
        obtain ⟨pc1, L1, st1, I1, J1, F1⟩ := s1
        exact stI_ok he h1 (ih h)
      · cases h
    · cases h
/-- the same, with the state behind it written out -/
theorem V_go (f : Nat) {pc' : Nat} {L' : Lc} {st' : List Value} {I' : I2} {J' : J2} {F' : F2} (h : stps mt.2.2.2.2.2.2 n f (pc, L, st, I, J, F) = some (pc', L', st', I', J', F')) (kk : V mt sc d nE Q pc' L' st' n I' J' F') : V mt sc d nE Q pc L st n I J F := V_run f h kk
end VT
end
section
theorem uwsTy : ∀ ci, ci < 7 → ∀ k, k < (nCl ci).2.2 → (match tyF ci k with | .int => true | .boolean => true | .long => true | .object _ => true | .array _ => true | _ => false) = true := by decide +kernel
section VN9
variable {mt : MT} {sc : Option (Nat × (Nat → Int32))} {d nE : Nat} {Q : QT} {pc nx t ci k n : Nat} {c32 : Int32} {c64 : Int64} {L : Lc} {st rest : List Value} {I : I2} {J : J2} {F : F2}
theorem wl_grow {cA cA' : Nat → ClassId} {ad ad' : Nat → Nat} {I' : I2} {J' : J2} {F' : F2} (h1 : ∀ i, i < n → ad' i = ad i) (h2 : ∀ i, i < n → cellA cA' ad' I' J' F' i = cellA cA ad I J F i) : wl cA' ad' (n + 1) I' J' F' = wl cA ad n I J F ++ [(ad' n, cellA cA' ad' I' J' F' n)] := by
  simp only [wl, List.range_succ, List.map_append, List.map_cons, List.map_nil]
  congr 1
  exact List.map_congr_left fun i hi => by rw [h1 i (List.mem_range.mp hi), h2 i (List.mem_range.mp hi)]
theorem cell_grow {cA cA' : Nat → ClassId} {ad ad' : Nat → Nat} {I' : I2} {J' : J2} {F' : F2} {i : Nat} (hc : cA' i = cA i) (hI : I' i = I i) (hJ : J' i = J i) (hF : F' i = F i) (hr : ∀ k j, F i k = some j → ad' j = ad j) : cellA cA' ad' I' J' F' i = cellA cA ad I J F i := by
  unfold cellA
  cases KD i with
  | inl c =>
    simp only
    congr 2
    refine List.map_congr_left fun k _ => ?_
    simp only [fv, hI, hJ, hF]
    split <;> try rfl
    cases hf : F i k with
    | none => rfl
    | some j => simp only [va_rf, cv, hr k j hf]
  | inr q => simp only [arrA, hI, hJ, hc]
theorem cv_same {ad ad' : Nat → Nat} {v : Value} (h : okr n v) (ha : ∀ i, (i < n ∨ 1000 ≤ i) → ad' i = ad i) : cv ad' v = cv ad v := cv_okr h ha
theorem V_new {z wini : Nat} (he : fE mt.2.2.2.2.2.2 pc = some (pc, .new z, nx, t, c32, c64, ci, k)) (h7 : ci < 7) (hcl : gAt t (.classLink mt.1 z (nCl ci).1) = true) (hin : gAt k (.instantiable (nCl ci).1 (nCl ci).2.2) = true) (hini : gAt wini (.initialized (nCl ci).1) = true) (hKD : KD n = .inl ci) (hnE : n + 1 ≤ nE) (hn9 : n < 1000)
    (hL : ∀ q ∈ L, okr n q.2) (hst : ∀ v ∈ st, okr n v)
    (kk : V mt sc d nE Q nx L (.ref n :: st) (n + 1) (row2 I n fun _ => 0) (row2 J n fun _ => 0) (row2 F n fun _ => none)) : V mt sc d nE Q pc L st n I J F := by
  intro p l e R s m args below meth c D A n0 ad0 Qf X cA ad H locs ls S
  obtain ⟨hd, hn, ho⟩ := row_of X.2.2.1 he rfl
  subst hn
  have hts := X.2.2.2.2.2.2.2.2.1
  have hown := X.2.2.2.2.2.2.1
  have hR := X.2.2.2.2.2.2.2.2.2.2.2.1
  have hn0 := S.1
  have hs1 := sl_mono S.1
  have hs2 := sl_mono hnE
  have hsl := sl_succ n
  rw [hKD] at hsl
  have hsk : slotsK (.inl ci) = (nCl ci).2.2 := rfl
  rw [hsk] at hsl
  have key : ∀ q : Nat, (List.range (nCl ci).2.2).map (fun k => cv (fun i => if i = n then q else ad i) (fv (row2 I n fun _ => 0) (row2 J n fun _ => 0) (row2 F n fun _ => none) n k (tyF ci k))) = (List.range (nCl ci).2.2).map (fun k => cv ad (fv (fun _ _ => 0) (fun _ _ => 0) (fun _ _ => none) n k (tyF ci k))) := by
    intro q
    refine List.map_congr_left fun k _ => ?_
    simp only [fv, row2, if_true]
    split <;> rfl
  refine va_new (ci := ci) (fs := (List.range (nCl ci).2.2).map (fun k => cv ad (fv (fun _ _ => 0) (fun _ _ => 0) (fun _ _ => none) n k (tyF ci k)))) (T := (nCl ci).2.1) X.1 X.2.1 hts (uwsT h7) (tyF ci) (tyF_ok h7) hown (hts _ (gAt_mem hcl)) (hts _ (gAt_mem hin)) (hts _ (gAt_mem hini)) S.2.2.2.1.K0 S.P S.2.2.2.2.1 S.2.2.2.2.2.1 X.2.2.2.2.2.2.2.2.2.2.1 (nCl_get h7) (fun j hj => ?_) (by omega) (by omega) hd (fun q H1 hP hD hS => ?_)
  · have h1 := uwsTy ci h7 j hj
    simp only [vp_V, List.getD_eq_getElem?_getD, List.getElem?_map, List.getElem?_range hj, Option.map_some, Option.getD_some]
    cases hty : tyF ci j <;> simp [hty] at h1 <;> rfl
  · have hadi : ∀ i, i < n ∨ 1000 ≤ i → (fun i => if i = n then q else ad i) i = ad i := fun i hi => if_neg (by omega)
    have e1 : wl cA (fun i => if i = n then q else ad i) (n + 1) (row2 I n fun _ => 0) (row2 J n fun _ => 0) (row2 F n fun _ => none) = wl cA ad n I J F ++ [(q, .inr (ci, (List.range (nCl ci).2.2).map (fun k => cv ad (fv (fun _ _ => 0) (fun _ _ => 0) (fun _ _ => none) n k (tyF ci k)))))] := by
      rw [wl_grow (cA := cA) (ad := ad) (I := I) (J := J) (F := F) (fun i hi => hadi i (Or.inl hi)) (fun i hi => cell_grow rfl (row2_ne (by omega)) (row2_ne (by omega)) (row2_ne (by omega)) (fun k j hj => hadi j (Or.inl (S.2.2.2.2.2.2.1 i hi k j hj))))]
      congr 2
      simp only [cellA, hKD, if_true]
      rw [key q]
    have ec : n - n0 + 1 = n + 1 - n0 := by omega
    have es : sl n - sl n0 + (nCl ci).2.2 = sl (n + 1) - sl n0 := by omega
    rw [ec, es]
    have hLm : L.map (cvl fun i => if i = n then q else ad i) = L.map (cvl ad) := List.map_congr_left fun r hr => by
      simp only [cvl]
      rw [cv_same (hL r hr) hadi]
    have hSm : st.map (cv fun i => if i = n then q else ad i) = st.map (cv ad) := List.map_congr_left fun r hr => cv_same (hst r hr) hadi
    have h9 := kk p l e R s m args below meth c D A n0 ad0 Qf X cA (fun i => if i = n then q else ad i) H1 locs ls ⟨by omega, hnE, by rw [e1]; exact hP, ⟨S.2.2.2.1.1, fun i hi len ty hk => ?_⟩, by rw [e1]; exact hD, hS, ?_, fun i hi => ?_, by rw [hLm]; exact S.lv⟩
    · rw [List.map_cons, hSm, cv_ref, if_pos rfl] at h9
      exact h9
    · by_cases hin : i = n
      · subst hin; rw [hKD] at hk; cases hk
      · exact S.2.2.2.1.2 i (by omega) len ty hk
    · intro i hi k j hj
      by_cases hin : i = n
      · subst hin; simp [row2] at hj
      · rw [row2_ne hin] at hj
        have := S.2.2.2.2.2.2.1 i (by omega) k j hj
        omega
    · rw [hadi i (by omega)]
      exact S.2.2.2.2.2.2.2.1 i (by omega)
theorem V_newa {aty : ArrayType} {len : Nat} {x : Int32} {ty : FieldType} {wa : Nat} (he : fE mt.2.2.2.2.2.2 pc = some (pc, .newarray aty, nx, t, c32, c64, ci, k)) (hty : newarray.typeOf aty = ty) (hty2 : ty = .int ∨ ty = .long ∨ ty = .boolean) (hw : gAt wa (.arrayClass ty) = true) (hx0 : ¬ x < 0) (hx : x.toNatClampNeg = len) (hby : len * componentBytes ty ≤ 536870912) (hKD : KD n = .inr (len, ty)) (hnE : n + 1 ≤ nE) (hn9 : n < 1000)
    (hL : ∀ q ∈ L, okr n q.2) (hst : ∀ v ∈ st, okr n v)
    (kk : V mt sc d nE Q nx L (.ref n :: st) (n + 1) (row2 I n fun _ => 0) (row2 J n fun _ => 0) (row2 F n fun _ => none)) : V mt sc d nE Q pc L (.int x :: st) n I J F := by
  intro p l e R s m args below meth c D A n0 ad0 Qf X cA ad H locs ls S
  obtain ⟨hd, hn, ho⟩ := row_of X.2.2.1 he rfl
  subst hn
  have hts := X.2.2.2.2.2.2.2.2.1
  have hR := X.2.2.2.2.2.2.2.2.2.2.2.1
  have hn0 := S.1
  have hs1 := sl_mono S.1
  have hs2 := sl_mono hnE
  have hsl := sl_succ n
  rw [hKD] at hsl
  have hsk : slotsK (.inr (len, ty)) = len := rfl
  rw [hsk] at hsl
  refine va_newa (tys := []) (D := D) (cl := vwCl) (a0 := (len, arrA (row2 I n fun _ => 0) (row2 J n fun _ => 0) n ty)) X.1 X.2.1 (by rw [hty]; exact hts _ (gAt_mem hw)) hty S.2.2.2.1.K0 S.P S.2.2.2.2.1 S.2.2.2.2.2.1 X.2.2.2.2.2.2.2.2.2.2.1 (fun cA1 => ?_) hx0 hx hby (by omega) (by omega) hd (fun q cA1 H1 hK1 hP hD hS => ?_)
  · rcases hty2 with rfl | rfl | rfl <;> simp only [arrA, row2_eq] <;> rfl
  · have hadi : ∀ i, i < n ∨ 1000 ≤ i → (fun i => if i = n then q else ad i) i = ad i := fun i hi => if_neg (by omega)
    have e1 : wl (fun i => if i = n then cA1 else cA i) (fun i => if i = n then q else ad i) (n + 1) (row2 I n fun _ => 0) (row2 J n fun _ => 0) (row2 F n fun _ => none) = wl cA ad n I J F ++ [(q, .inl (cA1, (len, arrA (row2 I n fun _ => 0) (row2 J n fun _ => 0) n ty)))] := by
      rw [wl_grow (cA := cA) (ad := ad) (I := I) (J := J) (F := F) (fun i hi => hadi i (Or.inl hi)) (fun i hi => cell_grow (if_neg (by omega)) (row2_ne (by omega)) (row2_ne (by omega)) (row2_ne (by omega)) (fun k j hj => hadi j (Or.inl (S.2.2.2.2.2.2.1 i hi k j hj))))]
      congr 2
      simp only [cellA, hKD, if_true]
    have ec : n - n0 + 1 = n + 1 - n0 := by omega
    have es : sl n - sl n0 + len = sl (n + 1) - sl n0 := by omega
    rw [ec, es]
    have hLm : L.map (cvl fun i => if i = n then q else ad i) = L.map (cvl ad) := List.map_congr_left fun r hr => by
      simp only [cvl]
      rw [cv_same (hL r hr) hadi]
    have hSm : st.map (cv fun i => if i = n then q else ad i) = st.map (cv ad) := List.map_congr_left fun r hr => cv_same (hst r hr) hadi
    have h9 := kk p l e R s m args below meth c D A n0 ad0 Qf X (fun i => if i = n then cA1 else cA i) (fun i => if i = n then q else ad i) H1 locs ls ⟨by omega, hnE, by rw [e1]; exact hP, ⟨S.2.2.2.1.1, fun i hi len ty hk => ?_⟩, by rw [e1]; exact hD, hS, ?_, fun i hi => ?_, by rw [hLm]; exact S.lv⟩
    · rw [List.map_cons, hSm, cv_ref, if_pos rfl] at h9
      exact h9
    · by_cases hin : i = n
      · subst hin
        rw [hKD] at hk
        cases hk
        simp only [if_true]
        exact hK1.2 0 (cA1, _) rfl
      · simp only [hin, if_false]
        exact S.2.2.2.1.2 i (by omega) len ty hk
    · intro i hi k j hj
      by_cases hin : i = n
      · subst hin; simp [row2] at hj
      · rw [row2_ne hin] at hj
        have := S.2.2.2.2.2.2.1 i (by omega) k j hj
        omega
    · rw [hadi i (by omega)]
      exact S.2.2.2.2.2.2.2.1 i (by omega)
/-- a final field of references, in a constructor -/
theorem V_putR {z o j : Nat} (he : fE mt.2.2.2.2.2.2 pc = some (pc, .putfield z, nx, t, c32, c64, ci, k)) (hKD : KD o = .inl ci) (hon : o < n) (hjn : j < n) (hfin : ((nCl ci).2.1 k).2.2.2 = true) (hini : mt.2.1.name = "<init>") (hown2 : (nCl ci).1 = mt.1) (hg : gAt t (.fieldLink mt.1 z (nCl ci).1 ((nCl ci).2.1 k).2.1 ((nCl ci).2.1 k).2.2.1) = true) (hty : (∃ nm, tyF ci k = .object nm) ∨ ∃ ty, tyF ci k = .array ty)
    (kk : V mt sc d nE Q nx L st n I J (up2 F o k (some j))) : V mt sc d nE Q pc L (.ref j :: .ref o :: st) n I J F := by
  intro p l e R s m args below meth c D A n0 ad0 Qf X cA ad H locs ls S
  obtain ⟨hd, hn, ho⟩ := row_of X.2.2.1 he rfl
  subst hn
  obtain ⟨h7, hk, hdecl, -⟩ := okField_of o hKD ho
  have hts := X.2.2.2.2.2.2.2.2.1
  have hown := X.2.2.2.2.2.2.1
  have hsame : ∀ x, s.fieldFound? ((nCl ci).2.1 k).1 ((nCl ci).2.1 k).2.1 ((nCl ci).2.1 k).2.2.1 = some x → s.fieldFound? (nCl ci).1 ((nCl ci).2.1 k).2.1 ((nCl ci).2.1 k).2.2.1 = some x := fun x hx => by rw [← hdecl]; exact hx
  have hfv : fv I J (up2 F o k (some j)) o k (tyF ci k) = .ref j := by
    rcases hty with ⟨nm, h⟩ | ⟨ty, h⟩ <;> rw [h] <;> simp [fv, up2, va_rf]
  have hfo : ∀ i, i ≠ k → fv I J (up2 F o k (some j)) o i (tyF ci i) = fv I J F o i (tyF ci i) := fun i hi => by
    cases tyF ci i <;> simp [fv, up2, hi]
  have e1 : (wl cA ad n I J F).set o (ad o, .inr (ci, (fsO ad I J F o ci).set k (.ref (ad j)))) = wl cA ad n I J (up2 F o k (some j)) := by
    refine wl_set (fun i hi hio => cell_eq rfl rfl (up2_ne hio)) ?_
    rw [fs_set (I' := I) (J' := J) (F' := up2 F o k (some j)) hk (by rw [hfv]; rfl) hfo]
    simp [cellA, hKD, fsO]
  have kk2 : ∀ (H1 : Heap) (locs1 : List Loc), va_P D vwCl ((wl cA ad n I J F).set o (ad o, .inr (ci, (fsO ad I J F o ci).set k (.ref (ad j))))) H1 → va_D A ((wl cA ad n I J F).set o (ad o, .inr (ci, (fsO ad I J F o ci).set k (.ref (ad j))))) → va_S A s.heap H1 locs1 → W p l e R s m args below meth c H1 locs1 (n - n0) (sl n - sl n0) Qf (F0 m (pc + 3) ls (st.map (cv ad))) := by
    intro H1 locs1 hP hD hS
    rw [e1] at hP hD
    refine kk p l e R s m args below meth c D A n0 ad0 Qf X cA ad H1 locs1 ls ⟨S.1, S.2.1, hP, S.2.2.2.1, hD, hS, ?_, S.2.2.2.2.2.2.2.1, S.lv⟩
    intro i hi k' j' hj'
    by_cases h1 : i = o ∧ k' = k
    · rw [h1.1, h1.2] at hj'
      simp [up2] at hj'
      omega
    · have h2 : up2 F o k (some j) i k' = F i k' := by
        simp only [up2]
        by_cases h3 : i = o
        · rw [if_pos h3, if_neg (fun h4 => h1 ⟨h3, h4⟩)]
        · rw [if_neg h3]
      rw [h2] at hj'
      exact S.2.2.2.2.2.2.1 i hi k' j' hj'
  have hnar : narrow (tyF ci k) (.ref (ad j)) = .ref (ad j) := by rcases hty with ⟨nm, h⟩ | ⟨ty, h⟩ <;> rw [h] <;> rfl
  have hfit : fits (tyF ci k) (.ref (ad j)) = true := by rcases hty with ⟨nm, h⟩ | ⟨ty, h⟩ <;> rw [h] <;> rfl
  exact va_putF (D := D) (ci := ci) (ty := tyF ci k) X.1 X.2.1 hts (uwsT h7) (tyF ci) (tyF_ok h7) (nmF_ok h7) hown S.2.2.2.1.K0 S.P S.2.2.2.2.1 S.2.2.2.2.2.1 o (wl_obj hon hKD) (nCl_get h7) k hk (hts _ (gAt_mem hg)) hsame hfin (X.2.2.2.2.2.2.2.1.trans hini) (hdecl.trans hown2) (tyF_ok h7 k hk) hnar hfit (by rw [fsO_len]; exact hk) hd kk2
/-- Object's own constructor -/
theorem V_objInit {z o wl1 wi1 wc1 : Nat} (he : fE mt.2.2.2.2.2.2 pc = some (pc, .invokespecial z, nx, t, c32, c64, ci, k)) (h1 : gAt wl1 (.methodLink mt.1 z objectInit) = true) (h2 : gAt wi1 (.instanceMethod objectInit) = true) (h3 : gAt wc1 (.code objectInit ⟨#[0xb1]⟩ 1 none) = true) (hd1 : 1 ≤ d) (hsum : (st.map fun v => v.category).sum ≤ 8)
    (kk : V mt sc d nE Q nx L st n I J F) : V mt sc d nE Q pc L (.ref o :: st) n I J F := by
  intro p l e R s m args below meth c D A n0 ad0 Qf X cA ad H locs ls S
  obtain ⟨hd, hn, ho⟩ := row_of X.2.2.1 he rfl
  subst hn
  have hts := X.2.2.2.2.2.2.2.2.1
  have hR := X.2.2.2.2.2.2.2.2.2.2.2.1
  refine W.objInit X.1 X.2.1 X.2.2.2.2.2.2.1 (hts _ (gAt_mem h1)) (hts _ (gAt_mem h2)) (hts _ (gAt_mem h3)) rfl (by rw [X.2.2.2.2.2.1]; exact S.lv.1) rfl hd (by omega) ?_ ?_
  · show 2 * 0 + ((st.map (cv ad)).map fun v => v.category).sum + 12 ≤ R.locals
    rw [sum_cv]
    omega
  · exact kk p l e R s m args below meth c D A n0 ad0 Qf X cA ad H locs ls S
/-- System.arraycopy between arrays of ints -/
theorem V_copy {z a b la lb wl1 wn ws9 wi1 : Nat} {sp dp x : Int32} (he : fE mt.2.2.2.2.2.2 pc = some (pc, .invokestatic z, nx, t, c32, c64, ci, k)) (h1 : gAt wl1 (.methodLink mt.1 z arraycopyName) = true) (h2 : gAt wn (.native arraycopyName) = true) (h3 : gAt ws9 (.static arraycopyName) = true) (h4 : gAt wi1 (.initialized "java/lang/System") = true) (hd1 : 2 ≤ d) (hsum : (st.map fun v => v.category).sum ≤ 8)
    (hKa : KD a = .inr (la, .int)) (hKb : KD b = .inr (lb, .int)) (han : a < n) (hbn : b < n) (hs0 : 0 ≤ sp) (hd0 : 0 ≤ dp) (hx0 : 0 ≤ x) (hs9 : sp.toNatClampNeg + x.toNatClampNeg ≤ la) (hd9 : dp.toNatClampNeg + x.toNatClampNeg ≤ lb)
    (kk : V mt sc d nE Q nx L st n (row2 I b (va_cpy (I a) (I b) sp.toNatClampNeg dp.toNatClampNeg x.toNatClampNeg)) J F) : V mt sc d nE Q pc L (.int x :: .int dp :: .ref b :: .int sp :: .ref a :: st) n I J F := by
  intro p l e R s m args below meth c D A n0 ad0 Qf X cA ad H locs ls S
  obtain ⟨hd, hn, ho⟩ := row_of X.2.2.1 he rfl
  subst hn
  have hts := X.2.2.2.2.2.2.2.2.1
  have hR := X.2.2.2.2.2.2.2.2.2.2.2.1
  refine va_copyi (D := D) X.1 X.2.1 (by rw [X.2.2.2.2.2.1]; exact S.lv.1.symm) X.2.2.2.2.2.2.1 (hts _ (gAt_mem h1)) (hts _ (gAt_mem h2)) (hts _ (gAt_mem h3)) (hts _ (gAt_mem h4)) (S.2.2.2.1.K2 han hKa hbn hKb) S.P S.2.2.2.2.1 S.2.2.2.2.2.1 a b 0 1 (wl_arr han hKa) (wl_arr hbn hKb) rfl rfl rfl (Int32.not_lt.mpr hs0) (Int32.not_lt.mpr hd0) (Int32.not_lt.mpr hx0) hs9 hd9 (fun _ _ => rfl) (by omega) ?_ hd (fun H1 locs1 hP hD hS => ?_)
  · rw [sum_cv]
    have hw : nativeFrameWords "java/lang/System" "arraycopy" 5 + 11 ≤ 60 := by decide +kernel
    omega
  · have e1 : (wl cA ad n I J F).set b (ad b, .inl (cA b, lb, .inl (va_cpy (I a) (I b) sp.toNatClampNeg dp.toNatClampNeg x.toNatClampNeg))) = wl cA ad n (row2 I b (va_cpy (I a) (I b) sp.toNatClampNeg dp.toNatClampNeg x.toNatClampNeg)) J F := by
      refine wl_set (fun j hj hjo => cell_eq (row2_ne hjo) rfl rfl) ?_
      simp only [cellA, hKb, arrA, row2_eq]
    have hP : va_P D vwCl ((wl cA ad n I J F).set b (ad b, .inl (cA b, lb, .inl (va_cpy (I a) (I b) sp.toNatClampNeg dp.toNatClampNeg x.toNatClampNeg)))) H1 := hP
    have hD : va_D A ((wl cA ad n I J F).set b (ad b, .inl (cA b, lb, .inl (va_cpy (I a) (I b) sp.toNatClampNeg dp.toNatClampNeg x.toNatClampNeg)))) := hD
    rw [e1] at hP hD
    exact kk p l e R s m args below meth c D A n0 ad0 Qf X cA ad H1 locs1 ls ⟨S.1, S.2.1, hP, S.2.2.2.1, hD, hS, S.2.2.2.2.2.2.1, S.2.2.2.2.2.2.2.1, S.lv⟩
theorem V_mmax {z wl1 wst wi1 wc1 : Nat} {x y : Int32} (he : fE mt.2.2.2.2.2.2 pc = some (pc, .invokestatic z, nx, t, c32, c64, ci, k)) (h1 : gAt wl1 (.methodLink mt.1 z Lib.Math.max.name) = true) (h2 : gAt wst (.static Lib.Math.max.name) = true) (h3 : gAt wi1 (.initialized "java/lang/Math") = true) (h4 : gAt wc1 (.code Lib.Math.max.name Lib.Math.max.code 2 (some .int)) = true) (hd1 : 1 ≤ d) (hsum : (st.map fun v => v.category).sum ≤ 8)
    (kk : V mt sc d nE Q nx L (.int (if x < y then y else x) :: st) n I J F) : V mt sc d nE Q pc L (.int y :: .int x :: st) n I J F := by
  intro p l e R s m args below meth c D A n0 ad0 Qf X cA ad H locs ls S
  obtain ⟨hd, hn, ho⟩ := row_of X.2.2.1 he rfl
  subst hn
  have hts := X.2.2.2.2.2.2.2.2.1
  have hR := X.2.2.2.2.2.2.2.2.2.2.2.1
  have hs1 := sl_mono S.1
  have hs2 := sl_mono S.2.1
  have hn1 := S.1
  have hn2 := S.2.1
  exact va_mmax X.1 X.2.1 (by rw [X.2.2.2.2.2.1]; exact S.lv.1.symm) X.2.2.2.2.2.2.1 (hts _ (gAt_mem h1)) (hts _ (gAt_mem h2)) (hts _ (gAt_mem h3)) (hts _ (gAt_mem h4)) (by omega) (by rw [sum_cv]; omega) (by omega) (by omega) hd (kk p l e R s m args below meth c D A n0 ad0 Qf X cA ad H locs ls S)
theorem V_mmin {z wl1 wst wi1 wc1 : Nat} {x y : Int32} (he : fE mt.2.2.2.2.2.2 pc = some (pc, .invokestatic z, nx, t, c32, c64, ci, k)) (h1 : gAt wl1 (.methodLink mt.1 z Lib.Math.min.name) = true) (h2 : gAt wst (.static Lib.Math.min.name) = true) (h3 : gAt wi1 (.initialized "java/lang/Math") = true) (h4 : gAt wc1 (.code Lib.Math.min.name Lib.Math.min.code 2 (some .int)) = true) (hd1 : 1 ≤ d) (hsum : (st.map fun v => v.category).sum ≤ 8)
    (kk : V mt sc d nE Q nx L (.int (if y < x then y else x) :: st) n I J F) : V mt sc d nE Q pc L (.int y :: .int x :: st) n I J F := by
  intro p l e R s m args below meth c D A n0 ad0 Qf X cA ad H locs ls S
  obtain ⟨hd, hn, ho⟩ := row_of X.2.2.1 he rfl
  subst hn
  have hts := X.2.2.2.2.2.2.2.2.1
  have hR := X.2.2.2.2.2.2.2.2.2.2.2.1
  have hs1 := sl_mono S.1
  have hs2 := sl_mono S.2.1
  have hn1 := S.1
  have hn2 := S.2.1
  exact va_mmin X.1 X.2.1 (by rw [X.2.2.2.2.2.1]; exact S.lv.1.symm) X.2.2.2.2.2.2.1 (hts _ (gAt_mem h1)) (hts _ (gAt_mem h2)) (hts _ (gAt_mem h3)) (hts _ (gAt_mem h4)) (by omega) (by rw [sum_cv]; omega) (by omega) (by omega) hd (kk p l e R s m args below meth c D A n0 ad0 Qf X cA ad H locs ls S)
/-! the texts' own cells -/
theorem V_getSv {z i : Nat} (he : fE mt.2.2.2.2.2.2 pc = some (pc, .getfield z, nx, t, c32, c64, ci, k)) (hi : i < 12) (hg : gAt t (.fieldLink mt.1 z "java/lang/String" "value" "[B") = true) (kk : V mt sc d nE Q nx L (.ref (2000 + i) :: st) n I J F) : V mt sc d nE Q pc L (.ref (1000 + i) :: st) n I J F := by
  intro p l e R s m args below meth c D A n0 ad0 Qf X cA ad H locs ls S
  obtain ⟨hd, hn, ho⟩ := row_of X.2.2.1 he rfl
  subst hn
  have h9 := kk p l e R s m args below meth c D A n0 ad0 Qf X cA ad H locs ls S
  have a1 := S.2.2.2.2.2.2.2.1 (1000 + i) (Or.inr (Or.inl (by omega)))
  have a2 := S.2.2.2.2.2.2.2.1 (2000 + i) (Or.inr (Or.inl (by omega)))
  have hE := ((X.2.2.2.2.2.2.2.2.2.1.1).1 i hi).2.2.1
  simp only [List.map_cons, cv_ref, a1, a2] at h9 ⊢
  exact vk_getf X.1 X.2.1 hE S.2.2.2.2.2.1 X.2.2.2.2.2.2.1 (X.2.2.2.2.2.2.2.2.1 _ (gAt_mem hg)) (fun _ h => h) hd h9
theorem V_getSc {z i : Nat} (he : fE mt.2.2.2.2.2.2 pc = some (pc, .getfield z, nx, t, c32, c64, ci, k)) (hi : i < 12) (hg : gAt t (.fieldLink mt.1 z "java/lang/String" "coder" "B") = true) (kk : V mt sc d nE Q nx L (.int 0 :: st) n I J F) : V mt sc d nE Q pc L (.ref (1000 + i) :: st) n I J F := by
  intro p l e R s m args below meth c D A n0 ad0 Qf X cA ad H locs ls S
  obtain ⟨hd, hn, ho⟩ := row_of X.2.2.1 he rfl
  subst hn
  have h9 := kk p l e R s m args below meth c D A n0 ad0 Qf X cA ad H locs ls S
  have a1 := S.2.2.2.2.2.2.2.1 (1000 + i) (Or.inr (Or.inl (by omega)))
  have hE := ((X.2.2.2.2.2.2.2.2.2.1.1).1 i hi).2.1
  simp only [List.map_cons, cv_ref, a1] at h9 ⊢
  exact vk_getf X.1 X.2.1 hE S.2.2.2.2.2.1 X.2.2.2.2.2.2.1 (X.2.2.2.2.2.2.2.2.1 _ (gAt_mem hg)) (fun _ h => h) hd h9
theorem V_statC {z : Nat} (he : fE mt.2.2.2.2.2.2 pc = some (pc, .getstatic z, nx, t, c32, c64, ci, k)) (hg : gAt t (.fieldLink mt.1 z "java/lang/String" "COMPACT_STRINGS" "Z") = true) (kk : V mt sc d nE Q nx L (.int 1 :: st) n I J F) : V mt sc d nE Q pc L st n I J F := by
  intro p l e R s m args below meth c D A n0 ad0 Qf X cA ad H locs ls S
  obtain ⟨hd, hn, ho⟩ := row_of X.2.2.1 he rfl
  subst hn
  exact va_gets X.1 X.2.1 X.2.2.2.2.2.2.2.2.2.1.2.2.1 S.2.2.2.2.2.1 X.2.2.2.2.2.2.1 (X.2.2.2.2.2.2.2.2.1 _ (gAt_mem hg)) (fun _ h => h) hd (kk p l e R s m args below meth c D A n0 ad0 Qf X cA ad H locs ls S)
theorem V_statF {z : Nat} (he : fE mt.2.2.2.2.2.2 pc = some (pc, .getstatic z, nx, t, c32, c64, ci, k)) (hg : gAt t (.fieldLink mt.1 z fmC "SIOOBE_FORMATTER" fmD) = true) (kk : ∀ v, (v = .null ∨ v = .ref 3000) → V mt sc d nE Q nx L (v :: st) n I J F) : V mt sc d nE Q pc L st n I J F := by
  intro p l e R s m args below meth c D A n0 ad0 Qf X cA ad H locs ls S
  obtain ⟨hd, hn, ho⟩ := row_of X.2.2.1 he rfl
  subst hn
  obtain ⟨v, hv, hZ⟩ := X.2.2.2.2.2.2.2.2.2.1.2.2.2.1
  have h9 := kk v hv p l e R s m args below meth c D A n0 ad0 Qf X cA ad H locs ls S
  have a1 : cv ad v = cv ad0 v := by
    rcases hv with rfl | rfl
    · rfl
    · rw [cv_ref, cv_ref, S.2.2.2.2.2.2.2.1 3000 (Or.inr (Or.inl (by omega)))]
  simp only [List.map_cons, a1] at h9
  exact va_gets X.1 X.2.1 hZ S.2.2.2.2.2.1 X.2.2.2.2.2.2.1 (X.2.2.2.2.2.2.2.2.1 _ (gAt_mem hg)) (fun _ h => h) hd h9
theorem V_alenS {i : Nat} (he : fE mt.2.2.2.2.2.2 pc = some (pc, .arraylength, nx, t, c32, c64, ci, k)) (hi : i < 12) (kk : V mt sc d nE Q nx L (.int (Int32.ofNat (sLen.getD i 0)) :: st) n I J F) : V mt sc d nE Q pc L (.ref (2000 + i) :: st) n I J F := by
  intro p l e R s m args below meth c D A n0 ad0 Qf X cA ad H locs ls S
  obtain ⟨hd, hn, ho⟩ := row_of X.2.2.1 he rfl
  subst hn
  have h9 := kk p l e R s m args below meth c D A n0 ad0 Qf X cA ad H locs ls S
  have a2 := S.2.2.2.2.2.2.2.1 (2000 + i) (Or.inr (Or.inl (by omega)))
  have hE := ((X.2.2.2.2.2.2.2.2.2.1.1).1 i hi).2.2.2
  simp only [List.map_cons, cv_ref, a2] at h9 ⊢
  exact va_tlen X.1 X.2.1 hE S.2.2.2.2.2.1 rfl hd h9
theorem V_balS {i : Nat} {x : Int32} (he : fE mt.2.2.2.2.2.2 pc = some (pc, .baload, nx, t, c32, c64, ci, k)) (hi : i < 12) (hx : inb x (sLen.getD i 0)) (kk : V mt sc d nE Q nx L (.int ((sByt.getD i []).getD x.toNatClampNeg 0) :: st) n I J F) : V mt sc d nE Q pc L (.int x :: .ref (2000 + i) :: st) n I J F := by
  intro p l e R s m args below meth c D A n0 ad0 Qf X cA ad H locs ls S
  obtain ⟨hd, hn, ho⟩ := row_of X.2.2.1 he rfl
  subst hn
  have h9 := kk p l e R s m args below meth c D A n0 ad0 Qf X cA ad H locs ls S
  have a2 := S.2.2.2.2.2.2.2.1 (2000 + i) (Or.inr (Or.inl (by omega)))
  have hE := ((X.2.2.2.2.2.2.2.2.2.1.1).1 i hi).2.2.2
  simp only [List.map_cons, cv_ref, cv_int, a2] at h9 ⊢
  exact va_tb X.1 X.2.1 hE S.2.2.2.2.2.1 (inb_vp hx) rfl hd h9
/-! the script -/
theorem V_sld {L9 : Nat} {xs : Nat → Int32} {x : Int32} (he : fE mt.2.2.2.2.2.2 pc = some (pc, .iaload, nx, t, c32, c64, ci, k)) (hx : inb x L9) (kk : V mt (some (L9, xs)) d nE Q nx L (.int (xs x.toNatClampNeg) :: st) n I J F) : V mt (some (L9, xs)) d nE Q pc L (.int x :: .ref 4000 :: st) n I J F := by
  intro p l e R s m args below meth c D A n0 ad0 Qf X cA ad H locs ls S
  obtain ⟨hd, hn, ho⟩ := row_of X.2.2.1 he rfl
  subst hn
  have h9 := kk p l e R s m args below meth c D A n0 ad0 Qf X cA ad H locs ls S
  have a2 := S.2.2.2.2.2.2.2.1 4000 (Or.inr (Or.inl (by omega)))
  have hX := X.2.2.2.2.2.2.2.2.2.2.2.2.1
  simp only [scX] at hX
  simp only [List.map_cons, cv_ref, cv_int, a2] at h9 ⊢
  exact va_sld X.1 X.2.1 hX.1 hX.2.1 hX.2.2 S.2.2.2.2.2.1 (inb_vp hx) hd h9
theorem V_slen {L9 : Nat} {xs : Nat → Int32} (he : fE mt.2.2.2.2.2.2 pc = some (pc, .arraylength, nx, t, c32, c64, ci, k)) (kk : V mt (some (L9, xs)) d nE Q nx L (.int (Int32.ofNat L9) :: st) n I J F) : V mt (some (L9, xs)) d nE Q pc L (.ref 4000 :: st) n I J F := by
  intro p l e R s m args below meth c D A n0 ad0 Qf X cA ad H locs ls S
  obtain ⟨hd, hn, ho⟩ := row_of X.2.2.1 he rfl
  subst hn
  have h9 := kk p l e R s m args below meth c D A n0 ad0 Qf X cA ad H locs ls S
  have a2 := S.2.2.2.2.2.2.2.1 4000 (Or.inr (Or.inl (by omega)))
  have hX := X.2.2.2.2.2.2.2.2.2.2.2.2.1
  simp only [scX] at hX
  simp only [List.map_cons, cv_ref, cv_int, a2] at h9 ⊢
  exact va_slen X.1 X.2.1 hX.1 hX.2.1 hX.2.2 S.2.2.2.2.2.1 hd h9
end VN9
end
section
/-! calls, by the shape of the answer; the arguments are read off the stack -/
def popA : Nat → List Value → List Value → Option (List Value × List Value)
  | 0, st, acc => some (acc, st)
  | n + 1, .int x :: st, acc => popA n st (.int x :: acc)
  | n + 1, .long x :: st, acc => popA n st (.long x :: acc)
  | n + 1, .ref x :: st, acc => popA n st (.ref x :: acc)
  | n + 1, .null :: st, acc => popA n st (.null :: acc)
  | _ + 1, _, _ => none
theorem popA_eq : ∀ (n : Nat) (st acc As rest : List Value), popA n st acc = some (As, rest) → acc.reverse ++ st = As.reverse ++ rest ∧ As.length = n + acc.length
  | 0, st, acc, As, rest, h => by
    simp only [popA] at h
    cases h
    simp
  | n + 1, [], acc, As, rest, h => by simp [popA] at h
  | n + 1, v :: st, acc, As, rest, h => by
    have key : ∀ w, popA n st (w :: acc) = some (As, rest) → w = v → acc.reverse ++ v :: st = As.reverse ++ rest ∧ As.length = n + 1 + acc.length := by
      intro w hw e
      have h1 := popA_eq n st (w :: acc) As rest hw
      subst e
      simp only [List.reverse_cons, List.append_assoc, List.singleton_append, List.length_cons] at h1
      exact ⟨h1.1, by omega⟩
    cases v with
    | int x => exact key _ h rfl
    | long x => exact key _ h rfl
    | ref x => exact key _ h rfl
    | null => exact key _ h rfl
    | float x => simp [popA] at h
    | double x => simp [popA] at h
    | retAddr x => simp [popA] at h
def RFq (F0 : F2) (P : Option Value → I2 → J2 → Prop) : QT := fun rv I J F => P rv I J ∧ F = F0
/-- the answer is that int, the world these numbers -/
def RI (F0 : F2) (r : Int32) (I1 : I2) (J1 : J2) : QT := fun rv I J F => rv = some (.int r) ∧ I = I1 ∧ J = J1 ∧ F = F0
def RV (F0 : F2) (I1 : I2) (J1 : J2) : QT := fun rv I J F => rv = none ∧ I = I1 ∧ J = J1 ∧ F = F0
def RP (F0 : F2) (P : Int32 → I2 → J2 → Prop) : QT := fun rv I J F => ∃ r, rv = some (.int r) ∧ P r I J ∧ F = F0
def RVP (F0 : F2) (P : I2 → J2 → Prop) : QT := fun rv I J F => rv = none ∧ P I J ∧ F = F0
def RLg (F0 : F2) (P : Int64 → I2 → J2 → Prop) : QT := fun rv I J F => ∃ r, rv = some (.long r) ∧ P r I J ∧ F = F0
def RA (F0 : F2) (r : Nat) (I1 : I2) (J1 : J2) : QT := fun rv I J F => rv = some (.ref r) ∧ I = I1 ∧ J = J1 ∧ F = F0
theorem RI.mk {F0 : F2} {x r : Int32} {I : I2} {J : J2} (h : x = r) : RI F0 r I J (some (.int x)) I J F0 := ⟨by rw [h], rfl, rfl, rfl⟩
theorem RP.mk {F0 : F2} {x : Int32} {P : Int32 → I2 → J2 → Prop} {I : I2} {J : J2} (h : P x I J) : RP F0 P (some (.int x)) I J F0 := ⟨x, rfl, h, rfl⟩
theorem RLg.mk {F0 : F2} {x : Int64} {P : Int64 → I2 → J2 → Prop} {I : I2} {J : J2} (h : P x I J) : RLg F0 P (some (.long x)) I J F0 := ⟨x, rfl, h, rfl⟩
theorem RV.mk {F0 : F2} {I : I2} {J : J2} : RV F0 I J none I J F0 := ⟨rfl, rfl, rfl, rfl⟩
theorem RVP.mk {F0 : F2} {P : I2 → J2 → Prop} {I : I2} {J : J2} (h : P I J) : RVP F0 P none I J F0 := ⟨rfl, h, rfl⟩
section V2
variable {mt : MT} {sc : Option (Nat × (Nat → Int32))} {d nE : Nat} {Q : QT} {pc nx t ci k n : Nat} {c32 : Int32} {c64 : Int64} {L : Lc} {st rest : List Value} {I : I2} {J : J2} {F : F2}
theorem cV {mt' : MT} {z o na wini winst wsel d' ci' : Nat} {As : List Value} {Q' : QT} (he : fE mt.2.2.2.2.2.2 pc = some (pc, .invokevirtual z, nx, t, c32, c64, ci, k)) (hl : lnk mt.1 z mt'.2.1) (hy : okYv mt' na wini winst wsel = true) (hst : popA na st [] = some (As, .ref o :: rest)) (hKD : KD o = .inl ci') (hcl : (nCl ci').1 = mt'.2.1.cls) (h7 : ci' < 7) (hon : o < n)
    (hC : CT mt' d' n n (.ref o :: As) I J F Q') (hd' : d' + 1 ≤ d) (hsum : (rest.map fun v => v.category).sum ≤ 8)
    (kk : ∀ rv I' J' F', Q' rv I' J' F' → V mt sc d nE Q nx L (rv.toList ++ rest) n I' J' F') (hn : n ≤ nE) : V mt sc d nE Q pc L st n I J F := by
  have h := popA_eq na st [] As _ hst
  simp only [List.reverse_nil, List.nil_append, List.length_nil, Nat.add_zero] at h
  exact V_callV he hl hy h.1 h.2 hKD hcl h7 hon hC hd' hsum ⟨Nat.le_refl _, hn⟩ (Or.inl rfl) kk
theorem cS {mt' : MT} {z na wini wstat d' : Nat} {As : List Value} {Q' : QT} (he : fE mt.2.2.2.2.2.2 pc = some (pc, .invokestatic z, nx, t, c32, c64, ci, k)) (hl : lnk mt.1 z mt'.2.1) (hy : okYs mt' na wini wstat = true) (hst : popA na st [] = some (As, rest))
    (hC : CT mt' d' n n As I J F Q') (hd' : d' + 1 ≤ d) (hsum : (rest.map fun v => v.category).sum ≤ 8)
    (kk : ∀ rv I' J' F', Q' rv I' J' F' → V mt sc d nE Q nx L (rv.toList ++ rest) n I' J' F') (hn : n ≤ nE) : V mt sc d nE Q pc L st n I J F := by
  have h := popA_eq na st [] As _ hst
  simp only [List.reverse_nil, List.nil_append, List.length_nil, Nat.add_zero] at h
  exact V_callS he hl hy h.1 h.2 hC hd' hsum ⟨Nat.le_refl _, hn⟩ (Or.inl rfl) kk
theorem cVI {mt' : MT} {z o na wini winst wsel d' ci' : Nat} {As : List Value} {r : Int32} {I1 : I2} {J1 : J2} (he : fE mt.2.2.2.2.2.2 pc = some (pc, .invokevirtual z, nx, t, c32, c64, ci, k)) (hl : lnk mt.1 z mt'.2.1) (hy : okYv mt' na wini winst wsel = true) (hst : popA na st [] = some (As, .ref o :: rest)) (hKD : KD o = .inl ci') (hcl : (nCl ci').1 = mt'.2.1.cls) (h7 : ci' < 7) (hon : o < n) (hd' : d' + 1 ≤ d) (hsum : (rest.map fun v => v.category).sum ≤ 8) (hn : n ≤ nE)
    (hC : CT mt' d' n n (.ref o :: As) I J F (RI F r I1 J1)) (kk : V mt sc d nE Q nx L (.int r :: rest) n I1 J1 F) : V mt sc d nE Q pc L st n I J F := cV he hl hy hst hKD hcl h7 hon hC hd' hsum (fun rv I' J' F' h => by obtain ⟨rfl, rfl, rfl, rfl⟩ := h; exact kk) hn
theorem cSI {mt' : MT} {z na wini wstat d' : Nat} {As : List Value} {r : Int32} {I1 : I2} {J1 : J2} (he : fE mt.2.2.2.2.2.2 pc = some (pc, .invokestatic z, nx, t, c32, c64, ci, k)) (hl : lnk mt.1 z mt'.2.1) (hy : okYs mt' na wini wstat = true) (hst : popA na st [] = some (As, rest)) (hd' : d' + 1 ≤ d) (hsum : (rest.map fun v => v.category).sum ≤ 8) (hn : n ≤ nE)
    (hC : CT mt' d' n n As I J F (RI F r I1 J1)) (kk : V mt sc d nE Q nx L (.int r :: rest) n I1 J1 F) : V mt sc d nE Q pc L st n I J F := cS he hl hy hst hC hd' hsum (fun rv I' J' F' h => by obtain ⟨rfl, rfl, rfl, rfl⟩ := h; exact kk) hn
theorem cVV {mt' : MT} {z o na wini winst wsel d' ci' : Nat} {As : List Value} {I1 : I2} {J1 : J2} (he : fE mt.2.2.2.2.2.2 pc = some (pc, .invokevirtual z, nx, t, c32, c64, ci, k)) (hl : lnk mt.1 z mt'.2.1) (hy : okYv mt' na wini winst wsel = true) (hst : popA na st [] = some (As, .ref o :: rest)) (hKD : KD o = .inl ci') (hcl : (nCl ci').1 = mt'.2.1.cls) (h7 : ci' < 7) (hon : o < n) (hd' : d' + 1 ≤ d) (hsum : (rest.map fun v => v.category).sum ≤ 8) (hn : n ≤ nE)
    (hC : CT mt' d' n n (.ref o :: As) I J F (RV F I1 J1)) (kk : V mt sc d nE Q nx L rest n I1 J1 F) : V mt sc d nE Q pc L st n I J F := cV he hl hy hst hKD hcl h7 hon hC hd' hsum (fun rv I' J' F' h => by obtain ⟨rfl, rfl, rfl, rfl⟩ := h; exact kk) hn
theorem cSV {mt' : MT} {z na wini wstat d' : Nat} {As : List Value} {I1 : I2} {J1 : J2} (he : fE mt.2.2.2.2.2.2 pc = some (pc, .invokestatic z, nx, t, c32, c64, ci, k)) (hl : lnk mt.1 z mt'.2.1) (hy : okYs mt' na wini wstat = true) (hst : popA na st [] = some (As, rest)) (hd' : d' + 1 ≤ d) (hsum : (rest.map fun v => v.category).sum ≤ 8) (hn : n ≤ nE)
    (hC : CT mt' d' n n As I J F (RV F I1 J1)) (kk : V mt sc d nE Q nx L rest n I1 J1 F) : V mt sc d nE Q pc L st n I J F := cS he hl hy hst hC hd' hsum (fun rv I' J' F' h => by obtain ⟨rfl, rfl, rfl, rfl⟩ := h; exact kk) hn
theorem cVP {mt' : MT} {z o na wini winst wsel d' ci' : Nat} {As : List Value} {P : Int32 → I2 → J2 → Prop} (he : fE mt.2.2.2.2.2.2 pc = some (pc, .invokevirtual z, nx, t, c32, c64, ci, k)) (hl : lnk mt.1 z mt'.2.1) (hy : okYv mt' na wini winst wsel = true) (hst : popA na st [] = some (As, .ref o :: rest)) (hKD : KD o = .inl ci') (hcl : (nCl ci').1 = mt'.2.1.cls) (h7 : ci' < 7) (hon : o < n) (hd' : d' + 1 ≤ d) (hsum : (rest.map fun v => v.category).sum ≤ 8) (hn : n ≤ nE)
    (hC : CT mt' d' n n (.ref o :: As) I J F (RP F P)) (kk : ∀ r I1 J1, P r I1 J1 → V mt sc d nE Q nx L (.int r :: rest) n I1 J1 F) : V mt sc d nE Q pc L st n I J F := cV he hl hy hst hKD hcl h7 hon hC hd' hsum (fun rv I' J' F' h => by obtain ⟨r, rfl, h, rfl⟩ := h; exact kk r _ _ h) hn
theorem cSP {mt' : MT} {z na wini wstat d' : Nat} {As : List Value} {P : Int32 → I2 → J2 → Prop} (he : fE mt.2.2.2.2.2.2 pc = some (pc, .invokestatic z, nx, t, c32, c64, ci, k)) (hl : lnk mt.1 z mt'.2.1) (hy : okYs mt' na wini wstat = true) (hst : popA na st [] = some (As, rest)) (hd' : d' + 1 ≤ d) (hsum : (rest.map fun v => v.category).sum ≤ 8) (hn : n ≤ nE)
    (hC : CT mt' d' n n As I J F (RP F P)) (kk : ∀ r I1 J1, P r I1 J1 → V mt sc d nE Q nx L (.int r :: rest) n I1 J1 F) : V mt sc d nE Q pc L st n I J F := cS he hl hy hst hC hd' hsum (fun rv I' J' F' h => by obtain ⟨r, rfl, h, rfl⟩ := h; exact kk r _ _ h) hn
theorem cVW {mt' : MT} {z o na wini winst wsel d' ci' : Nat} {As : List Value} {P : I2 → J2 → Prop} (he : fE mt.2.2.2.2.2.2 pc = some (pc, .invokevirtual z, nx, t, c32, c64, ci, k)) (hl : lnk mt.1 z mt'.2.1) (hy : okYv mt' na wini winst wsel = true) (hst : popA na st [] = some (As, .ref o :: rest)) (hKD : KD o = .inl ci') (hcl : (nCl ci').1 = mt'.2.1.cls) (h7 : ci' < 7) (hon : o < n) (hd' : d' + 1 ≤ d) (hsum : (rest.map fun v => v.category).sum ≤ 8) (hn : n ≤ nE)
    (hC : CT mt' d' n n (.ref o :: As) I J F (RVP F P)) (kk : ∀ I1 J1, P I1 J1 → V mt sc d nE Q nx L rest n I1 J1 F) : V mt sc d nE Q pc L st n I J F := cV he hl hy hst hKD hcl h7 hon hC hd' hsum (fun rv I' J' F' h => by obtain ⟨rfl, h, rfl⟩ := h; exact kk _ _ h) hn
theorem cSW {mt' : MT} {z na wini wstat d' : Nat} {As : List Value} {P : I2 → J2 → Prop} (he : fE mt.2.2.2.2.2.2 pc = some (pc, .invokestatic z, nx, t, c32, c64, ci, k)) (hl : lnk mt.1 z mt'.2.1) (hy : okYs mt' na wini wstat = true) (hst : popA na st [] = some (As, rest)) (hd' : d' + 1 ≤ d) (hsum : (rest.map fun v => v.category).sum ≤ 8) (hn : n ≤ nE)
    (hC : CT mt' d' n n As I J F (RVP F P)) (kk : ∀ I1 J1, P I1 J1 → V mt sc d nE Q nx L rest n I1 J1 F) : V mt sc d nE Q pc L st n I J F := cS he hl hy hst hC hd' hsum (fun rv I' J' F' h => by obtain ⟨rfl, h, rfl⟩ := h; exact kk _ _ h) hn
theorem cVL {mt' : MT} {z o na wini winst wsel d' ci' : Nat} {As : List Value} {P : Int64 → I2 → J2 → Prop} (he : fE mt.2.2.2.2.2.2 pc = some (pc, .invokevirtual z, nx, t, c32, c64, ci, k)) (hl : lnk mt.1 z mt'.2.1) (hy : okYv mt' na wini winst wsel = true) (hst : popA na st [] = some (As, .ref o :: rest)) (hKD : KD o = .inl ci') (hcl : (nCl ci').1 = mt'.2.1.cls) (h7 : ci' < 7) (hon : o < n) (hd' : d' + 1 ≤ d) (hsum : (rest.map fun v => v.category).sum ≤ 8) (hn : n ≤ nE)
    (hC : CT mt' d' n n (.ref o :: As) I J F (RLg F P)) (kk : ∀ r I1 J1, P r I1 J1 → V mt sc d nE Q nx L (.long r :: rest) n I1 J1 F) : V mt sc d nE Q pc L st n I J F := cV he hl hy hst hKD hcl h7 hon hC hd' hsum (fun rv I' J' F' h => by obtain ⟨r, rfl, h, rfl⟩ := h; exact kk r _ _ h) hn
theorem cSL {mt' : MT} {z na wini wstat d' : Nat} {As : List Value} {P : Int64 → I2 → J2 → Prop} (he : fE mt.2.2.2.2.2.2 pc = some (pc, .invokestatic z, nx, t, c32, c64, ci, k)) (hl : lnk mt.1 z mt'.2.1) (hy : okYs mt' na wini wstat = true) (hst : popA na st [] = some (As, rest)) (hd' : d' + 1 ≤ d) (hsum : (rest.map fun v => v.category).sum ≤ 8) (hn : n ≤ nE)
    (hC : CT mt' d' n n As I J F (RLg F P)) (kk : ∀ r I1 J1, P r I1 J1 → V mt sc d nE Q nx L (.long r :: rest) n I1 J1 F) : V mt sc d nE Q pc L st n I J F := cS he hl hy hst hC hd' hsum (fun rv I' J' F' h => by obtain ⟨r, rfl, h, rfl⟩ := h; exact kk r _ _ h) hn
theorem cVA {mt' : MT} {z o na wini winst wsel d' ci' : Nat} {As : List Value} {r : Nat} {I1 : I2} {J1 : J2} (he : fE mt.2.2.2.2.2.2 pc = some (pc, .invokevirtual z, nx, t, c32, c64, ci, k)) (hl : lnk mt.1 z mt'.2.1) (hy : okYv mt' na wini winst wsel = true) (hst : popA na st [] = some (As, .ref o :: rest)) (hKD : KD o = .inl ci') (hcl : (nCl ci').1 = mt'.2.1.cls) (h7 : ci' < 7) (hon : o < n) (hd' : d' + 1 ≤ d) (hsum : (rest.map fun v => v.category).sum ≤ 8) (hn : n ≤ nE)
    (hC : CT mt' d' n n (.ref o :: As) I J F (RA F r I1 J1)) (kk : V mt sc d nE Q nx L (.ref r :: rest) n I1 J1 F) : V mt sc d nE Q pc L st n I J F := cV he hl hy hst hKD hcl h7 hon hC hd' hsum (fun rv I' J' F' h => by obtain ⟨rfl, rfl, rfl, rfl⟩ := h; exact kk) hn
theorem cSA {mt' : MT} {z na wini wstat d' : Nat} {As : List Value} {r : Nat} {I1 : I2} {J1 : J2} (he : fE mt.2.2.2.2.2.2 pc = some (pc, .invokestatic z, nx, t, c32, c64, ci, k)) (hl : lnk mt.1 z mt'.2.1) (hy : okYs mt' na wini wstat = true) (hst : popA na st [] = some (As, rest)) (hd' : d' + 1 ≤ d) (hsum : (rest.map fun v => v.category).sum ≤ 8) (hn : n ≤ nE)
    (hC : CT mt' d' n n As I J F (RA F r I1 J1)) (kk : V mt sc d nE Q nx L (.ref r :: rest) n I1 J1 F) : V mt sc d nE Q pc L st n I J F := cS he hl hy hst hC hd' hsum (fun rv I' J' F' h => by obtain ⟨rfl, rfl, rfl, rfl⟩ := h; exact kk) hn
theorem V_tswC {dflt lo hi : Int} {offs : Array Int} {x v : Int32} {t9 : Nat} (he : fE mt.2.2.2.2.2.2 pc = some (pc, .tableswitch dflt lo hi offs, nx, t, c32, c64, ci, k)) (hsz : (offs.size : Int) = hi + 1 - lo) (hpos : (∀ o ∈ offs.toList, 0 ≤ (pc : Int) + o) ∧ 0 ≤ (pc : Int) + dflt) (ht : swT pc lo offs dflt v.toInt = t9)
    (k1 : x = v → V mt sc d nE Q t9 L st n I J F) (k2 : ¬ x = v → V mt sc d nE Q pc L (.int x :: st) n I J F) : V mt sc d nE Q pc L (.int x :: st) n I J F := by
  by_cases h : x = v
  · refine V_tsw he hsz hpos ?_
    rw [h, ht]
    exact k1 h
  · exact k2 h
theorem V_tswD {dflt lo hi : Int} {offs : Array Int} {x : Int32} {t9 : Nat} (he : fE mt.2.2.2.2.2.2 pc = some (pc, .tableswitch dflt lo hi offs, nx, t, c32, c64, ci, k)) (hsz : (offs.size : Int) = hi + 1 - lo) (hpos : (∀ o ∈ offs.toList, 0 ≤ (pc : Int) + o) ∧ 0 ≤ (pc : Int) + dflt) (ht : ((pc : Int) + dflt).toNat = t9) (hx : x.toInt < lo ∨ hi < x.toInt)
    (kk : V mt sc d nE Q t9 L st n I J F) : V mt sc d nE Q pc L (.int x :: st) n I J F := by
  refine V_tsw he hsz hpos ?_
  have e : swT pc lo offs dflt x.toInt = t9 := by
    unfold swT
    rcases hx with h | h
    · rw [if_pos h, ht]
    · by_cases h1 : x.toInt < lo
      · rw [if_pos h1, ht]
      · rw [if_neg h1]
        have h3 : offs[(x.toInt - lo).toNat]? = none := by
          rw [Array.getElem?_eq_none_iff]; omega
        rw [h3]
        exact ht
  rw [e]
  exact kk
end V2
end
section
def RFl : List (List (Option Nat)) := [[some 1, some 5, some 7, some 15, some 23, none, some 31, some 34], [none, none, some 2, some 3, some 4], [], [], [], [some 1, some 6, none, none, none, none, none], [], [some 1, some 8, none, none, none, none, some 9, some 10, some 11, none, some 12, some 13, some 14], [], [], [], [], [], [], [], [some 1, some 16, none, none, none, none, some 17, some 18, some 19, none, some 20, some 21, some 22], [], [], [], [], [], [], [], [some 1, some 24, none, none, none, none, some 25, some 26, some 27, none, some 28, some 29, some 30], [], [], [], [], [], [], [], [some 32, some 33, none, none, none], [], [], [some 35, some 36, some 37], [], [], [], [none, some 39, some 40, none, none, some 41, none, none, none, some 42, some 43, some 44, none, some 45, none, none, none, none, none, none, none, none, none, none, none, none, none, none, none, none, some 46, some 47, none, some 48, none, some 49, none, none, none, none, none, none, some 50, some 51, some 52, some 53, none, none, none, none, none, some 54, some 55, some 56, some 57]]
/-- which cell a field of references holds, once all is made -/
def RF : F2 := fun o k => (RFl.getD o []).getD k none
def oC (o : Nat) : Prop := o = 7 ∨ o = 15 ∨ o = 23
def b2i (p : Prop) [Decidable p] : Int32 := if p then 1 else 0
theorem b2i_1 {p : Prop} [Decidable p] (h : p) : b2i p = 1 := if_pos h
theorem b2i_0 {p : Prop} [Decidable p] (h : ¬ p) : b2i p = 0 := if_neg h
theorem b2i_or (p : Prop) [Decidable p] : b2i p = 0 ∨ b2i p = 1 := by unfold b2i; split <;> simp
theorem b2i_eq0 {p : Prop} [Decidable p] : b2i p = 0 ↔ ¬ p := by unfold b2i; split <;> simp_all
theorem b2i_eq1 {p : Prop} [Decidable p] : b2i p = 1 ↔ p := by unfold b2i; split <;> simp_all
theorem up2_rd {α : Type} (f : Nat → Nat → α) (o k : Nat) (v : α) (i j : Nat) : up2 f o k v i j = if i = o then (if j = k then v else f i j) else f i j := rfl
theorem row2_rd {α : Type} (f : Nat → Nat → α) (o : Nat) (g : Nat → α) (i j : Nat) : row2 f o g i j = if i = o then g j else f i j := rfl
theorem inb_ofN {x : Int32} {len : Nat} (hl : len < 2147483648) (h0 : 0 ≤ x) (h1 : x < Int32.ofNat len) : inb x len := by
  refine ⟨h0, ?_⟩
  have h2 := Int32.lt_iff_toInt_lt.mp h1
  have h3 := Int32.le_iff_toInt_le.mp h0
  rw [Int32.toInt_ofNat_of_lt (by omega)] at h2
  simp only [Int32.toInt_zero] at h3
  have h4 : (x.toNatClampNeg : Int) = x.toInt := by
    show ((x.toInt.toNat : Nat) : Int) = x.toInt
    omega
  omega
theorem i32_ti (n : Nat) (h : n < 2147483648) : Lean.Grind.ToInt.toInt (Int32.ofNat n) = (n : Int) := by
  show (Int32.ofNat n).toInt = (n : Int)
  exact Int32.toInt_ofNat_of_lt (by omega)
theorem tcn (x : Int32) (h : 0 ≤ x) : ((x.toNatClampNeg : Nat) : Int) = Lean.Grind.ToInt.toInt x := by
  show _ = x.toInt
  exact Int32.cast_toNatClampNeg x h
abbrev i32 (n : Nat) : Int32 := Int32.ofNat n
theorem RI.mk2 {F0 : F2} {x r : Int32} {I I1 : I2} {J J1 : J2} (h : x = r) (h2 : I = I1) (h3 : J = J1 := by rfl) : RI F0 r I1 J1 (some (.int x)) I J F0 := ⟨by rw [h], h2, h3, rfl⟩
theorem RV.mk2 {F0 : F2} {I I1 : I2} {J J1 : J2} (h2 : I = I1) (h3 : J = J1 := by rfl) : RV F0 I1 J1 none I J F0 := ⟨rfl, h2, h3, rfl⟩
end
section
theorem c_isOne {k : Int32} {I : I2} {J : J2} : CT mX1_isOne 1 58 58 [.int k] I J RF (RI RF (b2i (0 ≤ k ∧ k ≤ 5)) I J) := by
  refine CT_of okX1_isOne (Nat.le_of_ble_eq_true rfl) ?_
  show V _ _ _ _ _ _ [(0, _)] _ _ _ _ _
  refine V_go 1 rfl ?_
  refine V_if_lt rfl (fun h1 => ?_) (fun h1 => ?_)
  · skip
    refine V_go 1 rfl ?_
    refine V_zret rfl rfl rfl (by first | exact Or.inl rfl | exact Or.inr rfl | exact b2i_or _ | assumption) ?_
    exact RI.mk (by grind [b2i, i32_ti, tcn])
  · skip
    refine V_go 2 rfl ?_
    refine V_icmp_gt rfl (fun h2 => ?_) (fun h2 => ?_)
    · skip
      refine V_go 1 rfl ?_
      refine V_zret rfl rfl rfl (by first | exact Or.inl rfl | exact Or.inr rfl | exact b2i_or _ | assumption) ?_
      exact RI.mk (by grind [b2i, i32_ti, tcn])
    · skip
      refine V_go 2 rfl ?_
      refine V_zret rfl rfl rfl (by first | exact Or.inl rfl | exact Or.inr rfl | exact b2i_or _ | assumption) ?_
      exact RI.mk (by grind [b2i, i32_ti, tcn])
def sAbove (k : Int32) : Int32 := if k = 1 ∨ k = 2 ∨ k = 5 then 0 else if k = 3 then 1 else if k = 4 then 2 else -1
theorem c_above {k : Int32} {I : I2} {J : J2} : CT mX1_above 1 58 58 [.int k] I J RF (RI RF (sAbove k) I J) := by
  refine CT_of okX1_above (Nat.le_of_ble_eq_true rfl) ?_
  show V _ _ _ _ _ _ [(0, _)] _ _ _ _ _
  refine V_go 1 rfl ?_
  refine V_tswC (v := 1) rfl (by decide) (by decide) rfl (fun h2 => ?_) (fun h2 => ?_)
  · skip
    refine V_go 1 rfl ?_
    refine V_iret rfl rfl rfl ?_
    exact RI.mk (by grind [sAbove])
  refine V_tswC (v := 2) rfl (by decide) (by decide) rfl (fun h3 => ?_) (fun h3 => ?_)
  · skip
    refine V_go 1 rfl ?_
    refine V_iret rfl rfl rfl ?_
    exact RI.mk (by grind [sAbove])
  refine V_tswC (v := 3) rfl (by decide) (by decide) rfl (fun h4 => ?_) (fun h4 => ?_)
  · skip
    refine V_go 1 rfl ?_
    refine V_iret rfl rfl rfl ?_
    exact RI.mk (by grind [sAbove])
  refine V_tswC (v := 4) rfl (by decide) (by decide) rfl (fun h5 => ?_) (fun h5 => ?_)
  · skip
    refine V_go 1 rfl ?_
    refine V_iret rfl rfl rfl ?_
    exact RI.mk (by grind [sAbove])
  refine V_tswC (v := 5) rfl (by decide) (by decide) rfl (fun h6 => ?_) (fun h6 => ?_)
  · skip
    refine V_go 1 rfl ?_
    refine V_iret rfl rfl rfl ?_
    exact RI.mk (by grind [sAbove])
  refine V_tswD rfl (by decide) (by decide) (t9 := 42) rfl (by have q0 := lv_neT h2 (a := 1) (by decide); have q1 := lv_neT h3 (a := 2) (by decide); have q2 := lv_neT h4 (a := 3) (by decide); have q3 := lv_neT h5 (a := 4) (by decide); have q4 := lv_neT h6 (a := 5) (by decide); omega) ?_
  refine V_go 1 rfl ?_
  refine V_iret rfl rfl rfl ?_
  exact RI.mk (by grind [sAbove])
def sUnder : Nat → Int32 → Int32 → Int32
  | 0, a, _ => a
  | n + 1, a, o => if a = -1 ∨ a = o then a else sUnder n (sAbove a) o
theorem c_isUnder {k q : Int32} {I : I2} {J : J2} : CT mX1_isUnder 2 58 58 [.int k, .int q] I J RF (RI RF (b2i (sUnder 6 k q = q)) I J) := by
  refine CT_of okX1_isUnder (Nat.le_of_ble_eq_true rfl) ?_
  show V _ _ _ _ _ _ [(0, _), (1, _)] _ _ _ _ _
  have key : ∀ (n : Nat) (i a : Int32), i = 6 - Int32.ofNat n → n ≤ 6 → V mX1_isUnder none 2 58 (RI RF (b2i (sUnder n a q = q)) I J) 4 [(0, .int k), (1, .int q), (2, .int a), (3, .int i)] [] 58 I J RF := by
    intro n
    induction n with
    | zero =>
      intro i a hi hn
      refine V_go 2 rfl ?_
      refine V_icmp_gt rfl (fun h1 => ?_) (fun h1 => ?_)
      · skip
        refine V_go 2 rfl ?_
        refine V_icmp_ne rfl (fun h2 => ?_) (fun h2 => ?_)
        · skip
          refine V_go 1 rfl ?_
          refine V_zret rfl rfl rfl (by first | exact Or.inl rfl | exact Or.inr rfl | exact b2i_or _ | assumption) ?_
          exact RI.mk (by grind [b2i, sUnder, i32_ti])
        · skip
          refine V_go 2 rfl ?_
          refine V_zret rfl rfl rfl (by first | exact Or.inl rfl | exact Or.inr rfl | exact b2i_or _ | assumption) ?_
          exact RI.mk (by grind [b2i, sUnder, i32_ti])
      · skip
        exact absurd hi (by grind [i32_ti])
    | succ n ih =>
      intro i a hi hn
      refine V_go 2 rfl ?_
      refine V_icmp_gt rfl (fun h1 => ?_) (fun h1 => ?_)
      · skip
        exact absurd hi (by grind [i32_ti])
      · skip
        refine V_go 2 rfl ?_
        refine V_icmp_eq rfl (fun h2 => ?_) (fun h2 => ?_)
        · skip
          refine V_go 2 rfl ?_
          refine V_icmp_ne rfl (fun h3 => ?_) (fun h3 => ?_)
          · skip
            refine V_go 1 rfl ?_
            refine V_zret rfl rfl rfl (by first | exact Or.inl rfl | exact Or.inr rfl | exact b2i_or _ | assumption) ?_
            exact RI.mk (by grind [b2i, sUnder, i32_ti])
          · skip
            refine V_go 2 rfl ?_
            refine V_zret rfl rfl rfl (by first | exact Or.inl rfl | exact Or.inr rfl | exact b2i_or _ | assumption) ?_
            exact RI.mk (by grind [b2i, sUnder, i32_ti])
        · skip
          refine V_go 2 rfl ?_
          refine V_icmp_eq rfl (fun h4 => ?_) (fun h4 => ?_)
          · skip
            refine V_go 2 rfl ?_
            refine V_icmp_ne rfl (fun h5 => ?_) (fun h5 => ?_)
            · skip
              refine V_go 1 rfl ?_
              refine V_zret rfl rfl rfl (by first | exact Or.inl rfl | exact Or.inr rfl | exact b2i_or _ | assumption) ?_
              exact RI.mk (by grind [b2i, sUnder, i32_ti])
            · skip
              refine V_go 2 rfl ?_
              refine V_zret rfl rfl rfl (by first | exact Or.inl rfl | exact Or.inr rfl | exact b2i_or _ | assumption) ?_
              exact RI.mk (by grind [b2i, sUnder, i32_ti])
          · skip
            refine V_go 1 rfl ?_
            refine cSI (mt' := mX1_above) rfl kX1_11 fX1_above rfl (Nat.le_of_ble_eq_true rfl) (Nat.le_of_ble_eq_true rfl) (Nat.le_refl _) (c_above) ?_
            refine V_go 3 rfl ?_
            have e := ih (i + 1) (sAbove a) (by grind [i32_ti]) (by omega)
            have e2 : sUnder (n + 1) a q = sUnder n (sAbove a) q := by grind [sUnder]
            rw [e2]
            exact e
  refine V_go 4 rfl ?_
  exact key 6 0 k (by decide) (by decide)
def sKRd (k yes num bri sit : Int32) : Int32 := if k = 0 then b2i (yes ≠ 0) else if k = 1 then 1 else if k = 2 then b2i (yes ≠ 0 ∧ 0 < bri) else if k = 3 then b2i (sit - sit / 10 * 10 ≠ num) else if k = 4 then b2i ((yes ≠ 0 ∧ 0 < bri) ∨ num * 10 ≤ bri) else 0
def sKSil (k v num : Int32) : Int32 := if k = 0 then v else if k = 1 then 2 * v else if k = 2 then v / 2 else if k = 3 then 2 * v + num else if k = 4 then v / 2 + 2 else 1
def sKTim (k v num sit : Int32) : Int32 := if k = 1 ∨ k = 3 then v + num else if k = 4 then (if sit - sit / 2 * 2 = 1 then 0 else v) else v
theorem c_kRead {k yes num bri sit : Int32} {I : I2} {J : J2} (hy : yes = 0 ∨ yes = 1) : CT mX1_isRead 1 58 58 [.int k, .int yes, .int num, .int bri, .int sit] I J RF (RI RF (sKRd k yes num bri sit) I J) := by
  refine CT_of okX1_isRead (Nat.le_of_ble_eq_true rfl) ?_
  show V _ _ _ _ _ _ [(0, _), (1, _), (2, _), (3, _), (4, _)] _ _ _ _ _
  refine V_go 1 rfl ?_
  refine V_if_eq rfl (fun h1 => ?_) (fun h1 => ?_)
  · skip
    refine V_go 3 rfl ?_
    refine V_tswC (v := 0) rfl (by decide) (by decide) rfl (fun h3 => ?_) (fun h3 => ?_)
    · skip
      refine V_go 1 rfl ?_
      refine V_zret rfl rfl rfl (by first | exact Or.inl rfl | exact Or.inr rfl | exact b2i_or _ | assumption) ?_
      exact RI.mk (by grind [sKRd, b2i])
    refine V_tswC (v := 1) rfl (by decide) (by decide) rfl (fun h4 => ?_) (fun h4 => ?_)
    · skip
      refine V_go 1 rfl ?_
      refine V_zret rfl rfl rfl (by first | exact Or.inl rfl | exact Or.inr rfl | exact b2i_or _ | assumption) ?_
      exact RI.mk (by grind [sKRd, b2i])
    refine V_tswC (v := 2) rfl (by decide) (by decide) rfl (fun h5 => ?_) (fun h5 => ?_)
    · skip
      refine V_go 1 rfl ?_
      refine V_zret rfl rfl rfl (by first | exact Or.inl rfl | exact Or.inr rfl | exact b2i_or _ | assumption) ?_
      exact RI.mk (by grind [sKRd, b2i])
    refine V_tswC (v := 3) rfl (by decide) (by decide) rfl (fun h6 => ?_) (fun h6 => ?_)
    · skip
      refine V_go 2 rfl ?_
      refine V_irem0 rfl (by decide) ?_
      refine V_go 1 rfl ?_
      refine V_icmp_eq rfl (fun h7 => ?_) (fun h7 => ?_)
      · skip
        refine V_go 1 rfl ?_
        refine V_zret rfl rfl rfl (by first | exact Or.inl rfl | exact Or.inr rfl | exact b2i_or _ | assumption) ?_
        exact RI.mk (by grind [sKRd, b2i])
      · skip
        refine V_go 2 rfl ?_
        refine V_zret rfl rfl rfl (by first | exact Or.inl rfl | exact Or.inr rfl | exact b2i_or _ | assumption) ?_
        exact RI.mk (by grind [sKRd, b2i])
    refine V_tswC (v := 4) rfl (by decide) (by decide) rfl (fun h8 => ?_) (fun h8 => ?_)
    · skip
      refine V_go 1 rfl ?_
      refine V_if_ne rfl (fun h9 => ?_) (fun h9 => ?_)
      · skip
        refine V_go 2 rfl ?_
        refine V_zret rfl rfl rfl (by first | exact Or.inl rfl | exact Or.inr rfl | exact b2i_or _ | assumption) ?_
        exact RI.mk (by grind [sKRd, b2i])
      · skip
        refine V_go 4 rfl ?_
        refine V_icmp_lt rfl (fun h10 => ?_) (fun h10 => ?_)
        · skip
          refine V_go 1 rfl ?_
          refine V_zret rfl rfl rfl (by first | exact Or.inl rfl | exact Or.inr rfl | exact b2i_or _ | assumption) ?_
          exact RI.mk (by grind [sKRd, b2i])
        · skip
          refine V_go 2 rfl ?_
          refine V_zret rfl rfl rfl (by first | exact Or.inl rfl | exact Or.inr rfl | exact b2i_or _ | assumption) ?_
          exact RI.mk (by grind [sKRd, b2i])
    refine V_tswD rfl (by decide) (by decide) (t9 := 93) rfl (by have q0 := lv_neT h3 (a := 0) (by decide); have q1 := lv_neT h4 (a := 1) (by decide); have q2 := lv_neT h5 (a := 2) (by decide); have q3 := lv_neT h6 (a := 3) (by decide); have q4 := lv_neT h8 (a := 4) (by decide); omega) ?_
    refine V_go 1 rfl ?_
    refine V_zret rfl rfl rfl (by first | exact Or.inl rfl | exact Or.inr rfl | exact b2i_or _ | assumption) ?_
    exact RI.mk (by grind [sKRd, b2i])
  · skip
    refine V_go 1 rfl ?_
    refine V_if_le rfl (fun h11 => ?_) (fun h11 => ?_)
    · skip
      refine V_go 3 rfl ?_
      refine V_tswC (v := 0) rfl (by decide) (by decide) rfl (fun h13 => ?_) (fun h13 => ?_)
      · skip
        refine V_go 1 rfl ?_
        refine V_zret rfl rfl rfl (by first | exact Or.inl rfl | exact Or.inr rfl | exact b2i_or _ | assumption) ?_
        exact RI.mk (by grind [sKRd, b2i])
      refine V_tswC (v := 1) rfl (by decide) (by decide) rfl (fun h14 => ?_) (fun h14 => ?_)
      · skip
        refine V_go 1 rfl ?_
        refine V_zret rfl rfl rfl (by first | exact Or.inl rfl | exact Or.inr rfl | exact b2i_or _ | assumption) ?_
        exact RI.mk (by grind [sKRd, b2i])
      refine V_tswC (v := 2) rfl (by decide) (by decide) rfl (fun h15 => ?_) (fun h15 => ?_)
      · skip
        refine V_go 1 rfl ?_
        refine V_zret rfl rfl rfl (by first | exact Or.inl rfl | exact Or.inr rfl | exact b2i_or _ | assumption) ?_
        exact RI.mk (by grind [sKRd, b2i])
      refine V_tswC (v := 3) rfl (by decide) (by decide) rfl (fun h16 => ?_) (fun h16 => ?_)
      · skip
        refine V_go 2 rfl ?_
        refine V_irem0 rfl (by decide) ?_
        refine V_go 1 rfl ?_
        refine V_icmp_eq rfl (fun h17 => ?_) (fun h17 => ?_)
        · skip
          refine V_go 1 rfl ?_
          refine V_zret rfl rfl rfl (by first | exact Or.inl rfl | exact Or.inr rfl | exact b2i_or _ | assumption) ?_
          exact RI.mk (by grind [sKRd, b2i])
        · skip
          refine V_go 2 rfl ?_
          refine V_zret rfl rfl rfl (by first | exact Or.inl rfl | exact Or.inr rfl | exact b2i_or _ | assumption) ?_
          exact RI.mk (by grind [sKRd, b2i])
      refine V_tswC (v := 4) rfl (by decide) (by decide) rfl (fun h18 => ?_) (fun h18 => ?_)
      · skip
        refine V_go 1 rfl ?_
        refine V_if_ne rfl (fun h19 => ?_) (fun h19 => ?_)
        · skip
          refine V_go 2 rfl ?_
          refine V_zret rfl rfl rfl (by first | exact Or.inl rfl | exact Or.inr rfl | exact b2i_or _ | assumption) ?_
          exact RI.mk (by grind [sKRd, b2i])
        · skip
          refine V_go 4 rfl ?_
          refine V_icmp_lt rfl (fun h20 => ?_) (fun h20 => ?_)
          · skip
            refine V_go 1 rfl ?_
            refine V_zret rfl rfl rfl (by first | exact Or.inl rfl | exact Or.inr rfl | exact b2i_or _ | assumption) ?_
            exact RI.mk (by grind [sKRd, b2i])
          · skip
            refine V_go 2 rfl ?_
            refine V_zret rfl rfl rfl (by first | exact Or.inl rfl | exact Or.inr rfl | exact b2i_or _ | assumption) ?_
            exact RI.mk (by grind [sKRd, b2i])
      refine V_tswD rfl (by decide) (by decide) (t9 := 93) rfl (by have q0 := lv_neT h13 (a := 0) (by decide); have q1 := lv_neT h14 (a := 1) (by decide); have q2 := lv_neT h15 (a := 2) (by decide); have q3 := lv_neT h16 (a := 3) (by decide); have q4 := lv_neT h18 (a := 4) (by decide); omega) ?_
      refine V_go 1 rfl ?_
      refine V_zret rfl rfl rfl (by first | exact Or.inl rfl | exact Or.inr rfl | exact b2i_or _ | assumption) ?_
      exact RI.mk (by grind [sKRd, b2i])
    · skip
      refine V_go 4 rfl ?_
      refine V_tswC (v := 0) rfl (by decide) (by decide) rfl (fun h22 => ?_) (fun h22 => ?_)
      · skip
        refine V_go 1 rfl ?_
        refine V_zret rfl rfl rfl (by first | exact Or.inl rfl | exact Or.inr rfl | exact b2i_or _ | assumption) ?_
        exact RI.mk (by grind [sKRd, b2i])
      refine V_tswC (v := 1) rfl (by decide) (by decide) rfl (fun h23 => ?_) (fun h23 => ?_)
      · skip
        refine V_go 1 rfl ?_
        refine V_zret rfl rfl rfl (by first | exact Or.inl rfl | exact Or.inr rfl | exact b2i_or _ | assumption) ?_
        exact RI.mk (by grind [sKRd, b2i])
      refine V_tswC (v := 2) rfl (by decide) (by decide) rfl (fun h24 => ?_) (fun h24 => ?_)
      · skip
        refine V_go 1 rfl ?_
        refine V_zret rfl rfl rfl (by first | exact Or.inl rfl | exact Or.inr rfl | exact b2i_or _ | assumption) ?_
        exact RI.mk (by grind [sKRd, b2i])
      refine V_tswC (v := 3) rfl (by decide) (by decide) rfl (fun h25 => ?_) (fun h25 => ?_)
      · skip
        refine V_go 2 rfl ?_
        refine V_irem0 rfl (by decide) ?_
        refine V_go 1 rfl ?_
        refine V_icmp_eq rfl (fun h26 => ?_) (fun h26 => ?_)
        · skip
          refine V_go 1 rfl ?_
          refine V_zret rfl rfl rfl (by first | exact Or.inl rfl | exact Or.inr rfl | exact b2i_or _ | assumption) ?_
          exact RI.mk (by grind [sKRd, b2i])
        · skip
          refine V_go 2 rfl ?_
          refine V_zret rfl rfl rfl (by first | exact Or.inl rfl | exact Or.inr rfl | exact b2i_or _ | assumption) ?_
          exact RI.mk (by grind [sKRd, b2i])
      refine V_tswC (v := 4) rfl (by decide) (by decide) rfl (fun h27 => ?_) (fun h27 => ?_)
      · skip
        refine V_go 1 rfl ?_
        refine V_if_ne rfl (fun h28 => ?_) (fun h28 => ?_)
        · skip
          refine V_go 2 rfl ?_
          refine V_zret rfl rfl rfl (by first | exact Or.inl rfl | exact Or.inr rfl | exact b2i_or _ | assumption) ?_
          exact RI.mk (by grind [sKRd, b2i])
        · skip
          refine V_go 4 rfl ?_
          refine V_icmp_lt rfl (fun h29 => ?_) (fun h29 => ?_)
          · skip
            refine V_go 1 rfl ?_
            refine V_zret rfl rfl rfl (by first | exact Or.inl rfl | exact Or.inr rfl | exact b2i_or _ | assumption) ?_
            exact RI.mk (by grind [sKRd, b2i])
          · skip
            refine V_go 2 rfl ?_
            refine V_zret rfl rfl rfl (by first | exact Or.inl rfl | exact Or.inr rfl | exact b2i_or _ | assumption) ?_
            exact RI.mk (by grind [sKRd, b2i])
      refine V_tswD rfl (by decide) (by decide) (t9 := 93) rfl (by have q0 := lv_neT h22 (a := 0) (by decide); have q1 := lv_neT h23 (a := 1) (by decide); have q2 := lv_neT h24 (a := 2) (by decide); have q3 := lv_neT h25 (a := 3) (by decide); have q4 := lv_neT h27 (a := 4) (by decide); omega) ?_
      refine V_go 1 rfl ?_
      refine V_zret rfl rfl rfl (by first | exact Or.inl rfl | exact Or.inr rfl | exact b2i_or _ | assumption) ?_
      exact RI.mk (by grind [sKRd, b2i])
theorem c_kSil {k v num : Int32} {I : I2} {J : J2} : CT mX1_silence 1 58 58 [.int k, .int v, .int num] I J RF (RI RF (sKSil k v num) I J) := by
  refine CT_of okX1_silence (Nat.le_of_ble_eq_true rfl) ?_
  show V _ _ _ _ _ _ [(0, _), (1, _), (2, _)] _ _ _ _ _
  refine V_go 6 rfl ?_
  refine V_idiv rfl (by decide) ?_
  refine V_go 2 rfl ?_
  refine V_tswC (v := 0) rfl (by decide) (by decide) rfl (fun h2 => ?_) (fun h2 => ?_)
  · skip
    refine V_go 1 rfl ?_
    refine V_iret rfl rfl rfl ?_
    exact RI.mk (by grind [sKSil])
  refine V_tswC (v := 1) rfl (by decide) (by decide) rfl (fun h3 => ?_) (fun h3 => ?_)
  · skip
    refine V_go 1 rfl ?_
    refine V_iret rfl rfl rfl ?_
    exact RI.mk (by grind [sKSil])
  refine V_tswC (v := 2) rfl (by decide) (by decide) rfl (fun h4 => ?_) (fun h4 => ?_)
  · skip
    refine V_go 1 rfl ?_
    refine V_iret rfl rfl rfl ?_
    exact RI.mk (by grind [sKSil])
  refine V_tswC (v := 3) rfl (by decide) (by decide) rfl (fun h5 => ?_) (fun h5 => ?_)
  · skip
    refine V_go 3 rfl ?_
    refine V_iret rfl rfl rfl ?_
    exact RI.mk (by grind [sKSil])
  refine V_tswC (v := 4) rfl (by decide) (by decide) rfl (fun h6 => ?_) (fun h6 => ?_)
  · skip
    refine V_go 3 rfl ?_
    refine V_iret rfl rfl rfl ?_
    exact RI.mk (by grind [sKSil])
  refine V_tswD rfl (by decide) (by decide) (t9 := 60) rfl (by have q0 := lv_neT h2 (a := 0) (by decide); have q1 := lv_neT h3 (a := 1) (by decide); have q2 := lv_neT h4 (a := 2) (by decide); have q3 := lv_neT h5 (a := 3) (by decide); have q4 := lv_neT h6 (a := 4) (by decide); omega) ?_
  refine V_go 1 rfl ?_
  refine V_iret rfl rfl rfl ?_
  exact RI.mk (by grind [sKSil])
theorem c_kTim {k v num sit : Int32} {I : I2} {J : J2} : CT mX1_time 1 58 58 [.int k, .int v, .int num, .int sit] I J RF (RI RF (sKTim k v num sit) I J) := by
  refine CT_of okX1_time (Nat.le_of_ble_eq_true rfl) ?_
  show V _ _ _ _ _ _ [(0, _), (1, _), (2, _), (3, _)] _ _ _ _ _
  refine V_go 1 rfl ?_
  refine V_tswC (v := 1) rfl (by decide) (by decide) rfl (fun h2 => ?_) (fun h2 => ?_)
  · skip
    refine V_go 3 rfl ?_
    refine V_iret rfl rfl rfl ?_
    exact RI.mk (by grind [sKTim])
  refine V_tswC (v := 2) rfl (by decide) (by decide) rfl (fun h3 => ?_) (fun h3 => ?_)
  · skip
    refine V_go 1 rfl ?_
    refine V_iret rfl rfl rfl ?_
    exact RI.mk (by grind [sKTim])
  refine V_tswC (v := 3) rfl (by decide) (by decide) rfl (fun h4 => ?_) (fun h4 => ?_)
  · skip
    refine V_go 3 rfl ?_
    refine V_iret rfl rfl rfl ?_
    exact RI.mk (by grind [sKTim])
  refine V_tswC (v := 4) rfl (by decide) (by decide) rfl (fun h5 => ?_) (fun h5 => ?_)
  · skip
    refine V_go 2 rfl ?_
    refine V_irem0 rfl (by decide) ?_
    refine V_go 1 rfl ?_
    refine V_icmp_ne rfl (fun h6 => ?_) (fun h6 => ?_)
    · skip
      refine V_go 1 rfl ?_
      refine V_iret rfl rfl rfl ?_
      exact RI.mk (by grind [sKTim])
    · skip
      refine V_go 2 rfl ?_
      refine V_iret rfl rfl rfl ?_
      exact RI.mk (by grind [sKTim])
  refine V_tswD rfl (by decide) (by decide) (t9 := 49) rfl (by have q0 := lv_neT h2 (a := 1) (by decide); have q1 := lv_neT h3 (a := 2) (by decide); have q2 := lv_neT h4 (a := 3) (by decide); have q3 := lv_neT h5 (a := 4) (by decide); omega) ?_
  refine V_go 1 rfl ?_
  refine V_iret rfl rfl rfl ?_
  exact RI.mk (by grind [sKTim])
end
section
theorem c_hasCitizen {o : Nat} {x : Int32} {I : I2} {J : J2} (ho : oC o) : CT mX0_hasCitizen 1 58 58 [.ref o, .int x] I J RF (RI RF (b2i (0 ≤ x ∧ x < I o 5 ∧ x < 8)) I J) := by
  rcases ho with rfl | rfl | rfl
  all_goals
    refine CT_of okX0_hasCitizen (Nat.le_of_ble_eq_true rfl) ?_
    show V _ _ _ _ _ _ [(0, _), (1, _)] _ _ _ _ _
    refine V_go 1 rfl ?_
    refine V_if_lt rfl (fun h1 => ?_) (fun h1 => ?_)
    · skip
      refine V_go 1 rfl ?_
      refine V_zret rfl rfl rfl (by first | exact Or.inl rfl | exact Or.inr rfl | exact b2i_or _ | assumption) ?_
      exact RI.mk (by grind [b2i, i32_ti, tcn])
    · skip
      refine V_go 3 rfl ?_
      refine V_icmp_ge rfl (fun h2 => ?_) (fun h2 => ?_)
      · skip
        refine V_go 1 rfl ?_
        refine V_zret rfl rfl rfl (by first | exact Or.inl rfl | exact Or.inr rfl | exact b2i_or _ | assumption) ?_
        exact RI.mk (by grind [b2i, i32_ti, tcn])
      · skip
        refine V_go 2 rfl ?_
        refine V_icmp_ge rfl (fun h3 => ?_) (fun h3 => ?_)
        · skip
          refine V_go 1 rfl ?_
          refine V_zret rfl rfl rfl (by first | exact Or.inl rfl | exact Or.inr rfl | exact b2i_or _ | assumption) ?_
          exact RI.mk (by grind [b2i, i32_ti, tcn])
        · skip
          refine V_go 2 rfl ?_
          refine V_zret rfl rfl rfl (by first | exact Or.inl rfl | exact Or.inr rfl | exact b2i_or _ | assumption) ?_
          exact RI.mk (by grind [b2i, i32_ti, tcn])
theorem c_hasItem {o : Nat} {x : Int32} {I : I2} {J : J2} (ho : oC o) : CT mX0_hasItem 1 58 58 [.ref o, .int x] I J RF (RI RF (b2i (0 ≤ x ∧ x < I o 9 ∧ x < 6)) I J) := by
  rcases ho with rfl | rfl | rfl
  all_goals
    refine CT_of okX0_hasItem (Nat.le_of_ble_eq_true rfl) ?_
    show V _ _ _ _ _ _ [(0, _), (1, _)] _ _ _ _ _
    refine V_go 1 rfl ?_
    refine V_if_lt rfl (fun h1 => ?_) (fun h1 => ?_)
    · skip
      refine V_go 1 rfl ?_
      refine V_zret rfl rfl rfl (by first | exact Or.inl rfl | exact Or.inr rfl | exact b2i_or _ | assumption) ?_
      exact RI.mk (by grind [b2i, i32_ti, tcn])
    · skip
      refine V_go 3 rfl ?_
      refine V_icmp_ge rfl (fun h2 => ?_) (fun h2 => ?_)
      · skip
        refine V_go 1 rfl ?_
        refine V_zret rfl rfl rfl (by first | exact Or.inl rfl | exact Or.inr rfl | exact b2i_or _ | assumption) ?_
        exact RI.mk (by grind [b2i, i32_ti, tcn])
      · skip
        refine V_go 2 rfl ?_
        refine V_icmp_ge rfl (fun h3 => ?_) (fun h3 => ?_)
        · skip
          refine V_go 1 rfl ?_
          refine V_zret rfl rfl rfl (by first | exact Or.inl rfl | exact Or.inr rfl | exact b2i_or _ | assumption) ?_
          exact RI.mk (by grind [b2i, i32_ti, tcn])
        · skip
          refine V_go 2 rfl ?_
          refine V_zret rfl rfl rfl (by first | exact Or.inl rfl | exact Or.inr rfl | exact b2i_or _ | assumption) ?_
          exact RI.mk (by grind [b2i, i32_ti, tcn])
theorem c_everyone {o : Nat} {I : I2} {J : J2} (ho : oC o) : CT mX0_everyone 1 58 58 [.ref o] I J RF (RI RF ((1 : Int32) <<< (I o 5 &&& 31) - 1) I J) := by
  rcases ho with rfl | rfl | rfl
  all_goals
    refine CT_of okX0_everyone (Nat.le_of_ble_eq_true rfl) ?_
    show V _ _ _ _ _ _ [(0, _)] _ _ _ _ _
    refine V_go 6 rfl ?_
    refine V_iret rfl rfl rfl ?_
    exact RI.mk (by grind [b2i, i32_ti, tcn])
theorem c_kindOf {o : Nat} {x : Int32} {I : I2} {J : J2} (ho : oC o) : CT mX0_kindOf 2 58 58 [.ref o, .int x] I J RF (RI RF (if 0 ≤ x ∧ x < I o 5 ∧ x < 8 then I (o + 2) x.toNatClampNeg else -1) I J) := by
  rcases ho with rfl | rfl | rfl
  all_goals
    refine CT_of okX0_kindOf (Nat.le_of_ble_eq_true rfl) ?_
    show V _ _ _ _ _ _ [(0, _), (1, _)] _ _ _ _ _
    refine V_go 2 rfl ?_
    refine cVI (mt' := mX0_hasCitizen) rfl kX0_61 fX0_hasCitizen rfl rfl rfl (Nat.le_of_ble_eq_true rfl) (Nat.le_of_ble_eq_true rfl) (Nat.le_of_ble_eq_true rfl) (Nat.le_of_ble_eq_true rfl) (Nat.le_refl _) (c_hasCitizen (by unfold oC; decide)) ?_
    refine V_if_eq rfl (fun h2 => ?_) (fun h2 => ?_)
    · skip
      refine V_go 1 rfl ?_
      refine V_iret rfl rfl rfl ?_
      exact RI.mk (by grind [b2i, i32_ti, tcn])
    · skip
      refine V_go 3 rfl ?_
      refine V_iald rfl rfl (Nat.le_of_ble_eq_true rfl) (inb_ofN (by decide) (by grind [b2i, i32_ti, tcn]) (by grind [b2i, i32_ti, tcn])) ?_
      refine V_go 1 rfl ?_
      refine V_iret rfl rfl rfl ?_
      exact RI.mk (by grind [b2i, i32_ti, tcn])
theorem c_numberOf {o : Nat} {x : Int32} {I : I2} {J : J2} (ho : oC o) : CT mX0_numberOf 2 58 58 [.ref o, .int x] I J RF (RI RF (if 0 ≤ x ∧ x < I o 5 ∧ x < 8 then I (o + 3) x.toNatClampNeg else -1) I J) := by
  rcases ho with rfl | rfl | rfl
  all_goals
    refine CT_of okX0_numberOf (Nat.le_of_ble_eq_true rfl) ?_
    show V _ _ _ _ _ _ [(0, _), (1, _)] _ _ _ _ _
    refine V_go 2 rfl ?_
    refine cVI (mt' := mX0_hasCitizen) rfl kX0_61 fX0_hasCitizen rfl rfl rfl (Nat.le_of_ble_eq_true rfl) (Nat.le_of_ble_eq_true rfl) (Nat.le_of_ble_eq_true rfl) (Nat.le_of_ble_eq_true rfl) (Nat.le_refl _) (c_hasCitizen (by unfold oC; decide)) ?_
    refine V_if_eq rfl (fun h2 => ?_) (fun h2 => ?_)
    · skip
      refine V_go 1 rfl ?_
      refine V_iret rfl rfl rfl ?_
      exact RI.mk (by grind [b2i, i32_ti, tcn])
    · skip
      refine V_go 3 rfl ?_
      refine V_iald rfl rfl (Nat.le_of_ble_eq_true rfl) (inb_ofN (by decide) (by grind [b2i, i32_ti, tcn]) (by grind [b2i, i32_ti, tcn])) ?_
      refine V_go 1 rfl ?_
      refine V_iret rfl rfl rfl ?_
      exact RI.mk (by grind [b2i, i32_ti, tcn])
theorem c_bribeOf {o : Nat} {x : Int32} {I : I2} {J : J2} (ho : oC o) : CT mX0_bribeOf 2 58 58 [.ref o, .int x] I J RF (RI RF (if 0 ≤ x ∧ x < I o 5 ∧ x < 8 then I (o + 4) x.toNatClampNeg else -1) I J) := by
  rcases ho with rfl | rfl | rfl
  all_goals
    refine CT_of okX0_bribeOf (Nat.le_of_ble_eq_true rfl) ?_
    show V _ _ _ _ _ _ [(0, _), (1, _)] _ _ _ _ _
    refine V_go 2 rfl ?_
    refine cVI (mt' := mX0_hasCitizen) rfl kX0_61 fX0_hasCitizen rfl rfl rfl (Nat.le_of_ble_eq_true rfl) (Nat.le_of_ble_eq_true rfl) (Nat.le_of_ble_eq_true rfl) (Nat.le_of_ble_eq_true rfl) (Nat.le_refl _) (c_hasCitizen (by unfold oC; decide)) ?_
    refine V_if_eq rfl (fun h2 => ?_) (fun h2 => ?_)
    · skip
      refine V_go 1 rfl ?_
      refine V_iret rfl rfl rfl ?_
      exact RI.mk (by grind [b2i, i32_ti, tcn])
    · skip
      refine V_go 3 rfl ?_
      refine V_iald rfl rfl (Nat.le_of_ble_eq_true rfl) (inb_ofN (by decide) (by grind [b2i, i32_ti, tcn]) (by grind [b2i, i32_ti, tcn])) ?_
      refine V_go 1 rfl ?_
      refine V_iret rfl rfl rfl ?_
      exact RI.mk (by grind [b2i, i32_ti, tcn])
theorem c_takesOf {o : Nat} {x : Int32} {I : I2} {J : J2} (ho : oC o) : CT mX0_takesOf 2 58 58 [.ref o, .int x] I J RF (RI RF (if 0 ≤ x ∧ x < I o 9 ∧ x < 6 then I (o + 5) x.toNatClampNeg else -1) I J) := by
  rcases ho with rfl | rfl | rfl
  all_goals
    refine CT_of okX0_takesOf (Nat.le_of_ble_eq_true rfl) ?_
    show V _ _ _ _ _ _ [(0, _), (1, _)] _ _ _ _ _
    refine V_go 2 rfl ?_
    refine cVI (mt' := mX0_hasItem) rfl kX0_65 fX0_hasItem rfl rfl rfl (Nat.le_of_ble_eq_true rfl) (Nat.le_of_ble_eq_true rfl) (Nat.le_of_ble_eq_true rfl) (Nat.le_of_ble_eq_true rfl) (Nat.le_refl _) (c_hasItem (by unfold oC; decide)) ?_
    refine V_if_eq rfl (fun h2 => ?_) (fun h2 => ?_)
    · skip
      refine V_go 1 rfl ?_
      refine V_iret rfl rfl rfl ?_
      exact RI.mk (by grind [b2i, i32_ti, tcn])
    · skip
      refine V_go 3 rfl ?_
      refine V_iald rfl rfl (Nat.le_of_ble_eq_true rfl) (inb_ofN (by decide) (by grind [b2i, i32_ti, tcn]) (by grind [b2i, i32_ti, tcn])) ?_
      refine V_go 1 rfl ?_
      refine V_iret rfl rfl rfl ?_
      exact RI.mk (by grind [b2i, i32_ti, tcn])
theorem c_soFarOf {o : Nat} {x : Int32} {I : I2} {J : J2} (ho : oC o) : CT mX0_soFarOf 2 58 58 [.ref o, .int x] I J RF (RI RF (if 0 ≤ x ∧ x < I o 9 ∧ x < 6 then I (o + 6) x.toNatClampNeg else -1) I J) := by
  rcases ho with rfl | rfl | rfl
  all_goals
    refine CT_of okX0_soFarOf (Nat.le_of_ble_eq_true rfl) ?_
    show V _ _ _ _ _ _ [(0, _), (1, _)] _ _ _ _ _
    refine V_go 2 rfl ?_
    refine cVI (mt' := mX0_hasItem) rfl kX0_65 fX0_hasItem rfl rfl rfl (Nat.le_of_ble_eq_true rfl) (Nat.le_of_ble_eq_true rfl) (Nat.le_of_ble_eq_true rfl) (Nat.le_of_ble_eq_true rfl) (Nat.le_refl _) (c_hasItem (by unfold oC; decide)) ?_
    refine V_if_eq rfl (fun h2 => ?_) (fun h2 => ?_)
    · skip
      refine V_go 1 rfl ?_
      refine V_iret rfl rfl rfl ?_
      exact RI.mk (by grind [b2i, i32_ti, tcn])
    · skip
      refine V_go 3 rfl ?_
      refine V_iald rfl rfl (Nat.le_of_ble_eq_true rfl) (inb_ofN (by decide) (by grind [b2i, i32_ti, tcn]) (by grind [b2i, i32_ti, tcn])) ?_
      refine V_go 1 rfl ?_
      refine V_iret rfl rfl rfl ?_
      exact RI.mk (by grind [b2i, i32_ti, tcn])
theorem c_doneAt {o : Nat} {x : Int32} {I : I2} {J : J2} (ho : oC o) : CT mX0_doneAt 2 58 58 [.ref o, .int x] I J RF (RI RF (if 0 ≤ x ∧ x < I o 9 ∧ x < 6 then I (o + 7) x.toNatClampNeg else -1) I J) := by
  rcases ho with rfl | rfl | rfl
  all_goals
    refine CT_of okX0_doneAt (Nat.le_of_ble_eq_true rfl) ?_
    show V _ _ _ _ _ _ [(0, _), (1, _)] _ _ _ _ _
    refine V_go 2 rfl ?_
    refine cVI (mt' := mX0_hasItem) rfl kX0_65 fX0_hasItem rfl rfl rfl (Nat.le_of_ble_eq_true rfl) (Nat.le_of_ble_eq_true rfl) (Nat.le_of_ble_eq_true rfl) (Nat.le_of_ble_eq_true rfl) (Nat.le_refl _) (c_hasItem (by unfold oC; decide)) ?_
    refine V_if_eq rfl (fun h2 => ?_) (fun h2 => ?_)
    · skip
      refine V_go 1 rfl ?_
      refine V_iret rfl rfl rfl ?_
      exact RI.mk (by grind [b2i, i32_ti, tcn])
    · skip
      refine V_go 3 rfl ?_
      refine V_iald rfl rfl (Nat.le_of_ble_eq_true rfl) (inb_ofN (by decide) (by grind [b2i, i32_ti, tcn]) (by grind [b2i, i32_ti, tcn])) ?_
      refine V_go 1 rfl ?_
      refine V_iret rfl rfl rfl ?_
      exact RI.mk (by grind [b2i, i32_ti, tcn])
theorem c_putKind {o : Nat} {x v : Int32} {I : I2} {J : J2} (ho : oC o) : CT mX0_putKind 2 58 58 [.ref o, .int x, .int v] I J RF (RV RF (if 0 ≤ x ∧ x < I o 5 ∧ x < 8 then up2 I (o + 2) x.toNatClampNeg v else I) J) := by
  rcases ho with rfl | rfl | rfl
  all_goals
    refine CT_of okX0_putKind (Nat.le_of_ble_eq_true rfl) ?_
    show V _ _ _ _ _ _ [(0, _), (1, _), (2, _)] _ _ _ _ _
    refine V_go 2 rfl ?_
    refine cVI (mt' := mX0_hasCitizen) rfl kX0_61 fX0_hasCitizen rfl rfl rfl (Nat.le_of_ble_eq_true rfl) (Nat.le_of_ble_eq_true rfl) (Nat.le_of_ble_eq_true rfl) (Nat.le_of_ble_eq_true rfl) (Nat.le_refl _) (c_hasCitizen (by unfold oC; decide)) ?_
    refine V_if_eq rfl (fun h2 => ?_) (fun h2 => ?_)
    · skip
      refine V_vret rfl rfl rfl ?_
      exact RV.mk2 (by grind [b2i])
    · skip
      refine V_go 4 rfl ?_
      refine V_iast rfl rfl (Nat.le_of_ble_eq_true rfl) (inb_ofN (by decide) (by grind [b2i, i32_ti, tcn]) (by grind [b2i, i32_ti, tcn])) ?_
      refine V_vret rfl rfl rfl ?_
      exact RV.mk2 (by grind [b2i])
theorem c_putNumber {o : Nat} {x v : Int32} {I : I2} {J : J2} (ho : oC o) : CT mX0_putNumber 2 58 58 [.ref o, .int x, .int v] I J RF (RV RF (if 0 ≤ x ∧ x < I o 5 ∧ x < 8 then up2 I (o + 3) x.toNatClampNeg v else I) J) := by
  rcases ho with rfl | rfl | rfl
  all_goals
    refine CT_of okX0_putNumber (Nat.le_of_ble_eq_true rfl) ?_
    show V _ _ _ _ _ _ [(0, _), (1, _), (2, _)] _ _ _ _ _
    refine V_go 2 rfl ?_
    refine cVI (mt' := mX0_hasCitizen) rfl kX0_61 fX0_hasCitizen rfl rfl rfl (Nat.le_of_ble_eq_true rfl) (Nat.le_of_ble_eq_true rfl) (Nat.le_of_ble_eq_true rfl) (Nat.le_of_ble_eq_true rfl) (Nat.le_refl _) (c_hasCitizen (by unfold oC; decide)) ?_
    refine V_if_eq rfl (fun h2 => ?_) (fun h2 => ?_)
    · skip
      refine V_vret rfl rfl rfl ?_
      exact RV.mk2 (by grind [b2i])
    · skip
      refine V_go 4 rfl ?_
      refine V_iast rfl rfl (Nat.le_of_ble_eq_true rfl) (inb_ofN (by decide) (by grind [b2i, i32_ti, tcn]) (by grind [b2i, i32_ti, tcn])) ?_
      refine V_vret rfl rfl rfl ?_
      exact RV.mk2 (by grind [b2i])
theorem c_putBribe {o : Nat} {x v : Int32} {I : I2} {J : J2} (ho : oC o) : CT mX0_putBribe 2 58 58 [.ref o, .int x, .int v] I J RF (RV RF (if 0 ≤ x ∧ x < I o 5 ∧ x < 8 then up2 I (o + 4) x.toNatClampNeg v else I) J) := by
  rcases ho with rfl | rfl | rfl
  all_goals
    refine CT_of okX0_putBribe (Nat.le_of_ble_eq_true rfl) ?_
    show V _ _ _ _ _ _ [(0, _), (1, _), (2, _)] _ _ _ _ _
    refine V_go 2 rfl ?_
    refine cVI (mt' := mX0_hasCitizen) rfl kX0_61 fX0_hasCitizen rfl rfl rfl (Nat.le_of_ble_eq_true rfl) (Nat.le_of_ble_eq_true rfl) (Nat.le_of_ble_eq_true rfl) (Nat.le_of_ble_eq_true rfl) (Nat.le_refl _) (c_hasCitizen (by unfold oC; decide)) ?_
    refine V_if_eq rfl (fun h2 => ?_) (fun h2 => ?_)
    · skip
      refine V_vret rfl rfl rfl ?_
      exact RV.mk2 (by grind [b2i])
    · skip
      refine V_go 4 rfl ?_
      refine V_iast rfl rfl (Nat.le_of_ble_eq_true rfl) (inb_ofN (by decide) (by grind [b2i, i32_ti, tcn]) (by grind [b2i, i32_ti, tcn])) ?_
      refine V_vret rfl rfl rfl ?_
      exact RV.mk2 (by grind [b2i])
theorem c_addCitizen {o : Nat} {k x : Int32} {I : I2} {J : J2} (ho : oC o) : CT mX0_addCitizen 1 58 58 [.ref o, .int k, .int x] I J RF (RI RF (if 0 ≤ I o 5 ∧ I o 5 < 8 then I o 5 else -4) (if 0 ≤ I o 5 ∧ I o 5 < 8 then up2 (up2 (up2 (up2 I (o + 2) (I o 5).toNatClampNeg k) (o + 3) (I o 5).toNatClampNeg x) (o + 4) (I o 5).toNatClampNeg 0) o 5 (I o 5 + 1) else I) J) := by
  rcases ho with rfl | rfl | rfl
  all_goals
    refine CT_of okX0_addCitizen (Nat.le_of_ble_eq_true rfl) ?_
    show V _ _ _ _ _ _ [(0, _), (1, _), (2, _)] _ _ _ _ _
    refine V_go 2 rfl ?_
    try simp only [up2_rd, row2_rd, reduceIte, Nat.reduceEqDiff]
    refine V_if_lt rfl (fun h1 => ?_) (fun h1 => ?_)
    · skip
      refine V_go 1 rfl ?_
      try simp only [up2_rd, row2_rd, reduceIte, Nat.reduceEqDiff]
      refine V_iret rfl rfl rfl ?_
      exact RI.mk2 (by grind) (by grind)
    · skip
      refine V_go 3 rfl ?_
      try simp only [up2_rd, row2_rd, reduceIte, Nat.reduceEqDiff]
      refine V_icmp_lt rfl (fun h2 => ?_) (fun h2 => ?_)
      · skip
        refine V_go 5 rfl ?_
        try simp only [up2_rd, row2_rd, reduceIte, Nat.reduceEqDiff]
        refine V_iast rfl rfl (Nat.le_of_ble_eq_true rfl) (inb_ofN (by decide) (by grind [b2i, i32_ti, tcn]) (by grind [b2i, i32_ti, tcn])) ?_
        refine V_go 5 rfl ?_
        try simp only [up2_rd, row2_rd, reduceIte, Nat.reduceEqDiff]
        refine V_iast rfl rfl (Nat.le_of_ble_eq_true rfl) (inb_ofN (by decide) (by grind [b2i, i32_ti, tcn]) (by grind [b2i, i32_ti, tcn])) ?_
        refine V_go 5 rfl ?_
        try simp only [up2_rd, row2_rd, reduceIte, Nat.reduceEqDiff]
        refine V_iast rfl rfl (Nat.le_of_ble_eq_true rfl) (inb_ofN (by decide) (by grind [b2i, i32_ti, tcn]) (by grind [b2i, i32_ti, tcn])) ?_
        refine V_go 7 rfl ?_
        try simp only [up2_rd, row2_rd, reduceIte, Nat.reduceEqDiff]
        refine V_iret rfl rfl rfl ?_
        exact RI.mk2 (by grind) (by grind)
      · skip
        refine V_go 1 rfl ?_
        try simp only [up2_rd, row2_rd, reduceIte, Nat.reduceEqDiff]
        refine V_iret rfl rfl rfl ?_
        exact RI.mk2 (by grind) (by grind)
theorem c_addItem {o : Nat} {x : Int32} {I : I2} {J : J2} (ho : oC o) : CT mX0_addItem 1 58 58 [.ref o, .int x] I J RF (RI RF (if 0 ≤ I o 9 ∧ I o 9 < 6 then I o 9 else -4) (if 0 ≤ I o 9 ∧ I o 9 < 6 then up2 (up2 (up2 (up2 I (o + 5) (I o 9).toNatClampNeg x) (o + 6) (I o 9).toNatClampNeg 0) (o + 7) (I o 9).toNatClampNeg (-1)) o 9 (I o 9 + 1) else I) J) := by
  rcases ho with rfl | rfl | rfl
  all_goals
    refine CT_of okX0_addItem (Nat.le_of_ble_eq_true rfl) ?_
    show V _ _ _ _ _ _ [(0, _), (1, _)] _ _ _ _ _
    refine V_go 2 rfl ?_
    try simp only [up2_rd, row2_rd, reduceIte, Nat.reduceEqDiff]
    refine V_if_lt rfl (fun h1 => ?_) (fun h1 => ?_)
    · skip
      refine V_go 1 rfl ?_
      try simp only [up2_rd, row2_rd, reduceIte, Nat.reduceEqDiff]
      refine V_iret rfl rfl rfl ?_
      exact RI.mk2 (by grind) (by grind)
    · skip
      refine V_go 3 rfl ?_
      try simp only [up2_rd, row2_rd, reduceIte, Nat.reduceEqDiff]
      refine V_icmp_lt rfl (fun h2 => ?_) (fun h2 => ?_)
      · skip
        refine V_go 5 rfl ?_
        try simp only [up2_rd, row2_rd, reduceIte, Nat.reduceEqDiff]
        refine V_iast rfl rfl (Nat.le_of_ble_eq_true rfl) (inb_ofN (by decide) (by grind [b2i, i32_ti, tcn]) (by grind [b2i, i32_ti, tcn])) ?_
        refine V_go 5 rfl ?_
        try simp only [up2_rd, row2_rd, reduceIte, Nat.reduceEqDiff]
        refine V_iast rfl rfl (Nat.le_of_ble_eq_true rfl) (inb_ofN (by decide) (by grind [b2i, i32_ti, tcn]) (by grind [b2i, i32_ti, tcn])) ?_
        refine V_go 5 rfl ?_
        try simp only [up2_rd, row2_rd, reduceIte, Nat.reduceEqDiff]
        refine V_iast rfl rfl (Nat.le_of_ble_eq_true rfl) (inb_ofN (by decide) (by grind [b2i, i32_ti, tcn]) (by grind [b2i, i32_ti, tcn])) ?_
        refine V_go 7 rfl ?_
        try simp only [up2_rd, row2_rd, reduceIte, Nat.reduceEqDiff]
        refine V_iret rfl rfl rfl ?_
        exact RI.mk2 (by grind) (by grind)
      · skip
        refine V_go 1 rfl ?_
        try simp only [up2_rd, row2_rd, reduceIte, Nat.reduceEqDiff]
        refine V_iret rfl rfl rfl ?_
        exact RI.mk2 (by grind) (by grind)
end
section
/-! WHAT A COUNCIL ANSWERS, in numbers. C: row 0 sitting, length, rule, citizens, items; rows 1 .. 6 kinds, numbers, bribes, takes, soFar, doneAt. T: what a text says (text, part, number, bribe, sitting, read, rank, asked), minutes bounded. -/
abbrev TV : Type := Int32 → Nat → Int32 → Int32 → Int32 → Int32 → Int32 → Int32 → Int32
abbrev CC : Type := Nat → Nat → Int32
def cOf (I : I2) (o : Nat) : CC := fun g j => match g with
  | 0 => (match j with
    | 0 => I o 2
    | 1 => I o 3
    | 2 => I o 4
    | 3 => I o 5
    | 4 => I o 9
    | _ => 0)
  | 1 => I (o + 2) j
  | 2 => I (o + 3) j
  | 3 => I (o + 4) j
  | 4 => I (o + 5) j
  | 5 => I (o + 6) j
  | 6 => I (o + 7) j
  | _ => 0
def cMd (I : I2) : CC := fun g j => match g with
  | 0 => (match j with
    | 0 => I 38 7
    | 1 => I 38 8
    | 2 => I 38 4
    | 3 => I 38 12
    | 4 => I 38 14
    | _ => 0)
  | 1 => I 42 j
  | 2 => I 43 j
  | 3 => I 44 j
  | 4 => I 45 (3 * j)
  | 5 => I 45 (3 * j + 1)
  | 6 => I 45 (3 * j + 2)
  | _ => 0
def nC (C : CC) : Nat := (C 0 3).toNatClampNeg
def mC (C : CC) : Nat := (C 0 4).toNatClampNeg

/-- how many of a set are less than i -/
def cnt (m : Nat) : Nat → Nat
  | 0 => 0
  | i + 1 => cnt m i + (if m.testBit i then 1 else 0)
def askT (T : TV) (C : CC) (part c ah : Nat) : Int32 := T (C 0 2) part (C 2 c) (C 3 c) (C 0 0) (i32 ah) (i32 c) (C 0 3)
def sRd (T : TV) (C : CC) (c ah : Nat) : Int32 := sKRd (C 1 c) (b2i (askT T C 0 c ah ≠ 0)) (C 2 c) (C 3 c) (C 0 0)
def sSl (T : TV) (C : CC) (c ah : Nat) : Int32 := sKSil (C 1 c) (askT T C 1 c ah) (C 2 c)
def sTm (T : TV) (C : CC) (c ah : Nat) : Int32 := sKTim (C 1 c) (askT T C 2 c ah) (C 2 c) (C 0 0)
def sLs (T : TV) (C : CC) : Nat → Nat
  | 0 => 0
  | i + 1 => if sRd T C i (cnt (sLs T C i) i) = 0 then sLs T C i else sLs T C i + 2 ^ i
def sLst (T : TV) (C : CC) : Nat := sLs T C (nC C)
def sGn (T : TV) (C : CC) (p : Nat → Bool) (m : Nat) : Nat → Int32
  | 0 => 0
  | i + 1 => sGn T C p m i + (if p i then (if m.testBit i then sTm T C i (cnt m i) else sSl T C i (cnt m i)) else 0)
/-- minutes that are gone by a list -/
def sGone (T : TV) (C : CC) (m : Nat) : Int32 := sGn T C (fun _ => true) m (nC C)
def sGo (T : TV) (C : CC) : Int32 := sGone T C (sLst T C)
def sLeft (T : TV) (C : CC) : Int32 := if C 0 1 - sGo T C < 0 then 0 else C 0 1 - sGo T C
def bitc (x : Int32) : Int32 :=
  let a := x - ((iushrV x 1) &&& 1431655765)
  let b := (a &&& 858993459) + ((iushrV a 2) &&& 858993459)
  let c := (b + iushrV b 4) &&& 252645135
  let d := c + iushrV c 8
  (d + iushrV d 16) &&& 63
theorem sLs_lt (T : TV) (C : CC) : ∀ n, sLs T C n < 2 ^ n
  | 0 => by simp [sLs]
  | n + 1 => by
    have h := sLs_lt T C n
    unfold sLs
    split <;> (rw [Nat.pow_succ]; omega)
theorem cnt_le (m : Nat) : ∀ i, cnt m i ≤ i
  | 0 => Nat.le_refl _
  | i + 1 => by
    have h := cnt_le m i
    unfold cnt
    split <;> omega
/-- small sets: the machine's bits and ours -/
theorem bitc_ok : ∀ m, m < 256 → ∀ i, i < 9 → bitc (i32 m &&& ((1 : Int32) <<< (i32 i &&& 31) - 1)) = i32 (cnt m i) := by decide +kernel
theorem bitc_all : ∀ m, m < 256 → bitc (i32 m) = i32 (cnt m 8) := by decide +kernel
theorem bit_ok : ∀ m, m < 256 → ∀ i, i < 8 → (i32 m >>> (i32 i &&& 31)) &&& 1 = if m.testBit i then 1 else 0 := by decide +kernel
theorem bitn_ok : ∀ m, m < 256 → ∀ i, i < 8 → ((i32 m ^^^ -1) >>> (i32 i &&& 31)) &&& 1 = if m.testBit i then 0 else 1 := by decide +kernel
theorem orbit_ok : ∀ i, i < 8 → ∀ m, m < 2 ^ i → i32 m ||| (1 : Int32) <<< (i32 i &&& 31) = i32 (m + 2 ^ i) := by decide +kernel
theorem evr_ok : ∀ n, n < 9 → (1 : Int32) <<< (i32 n &&& 31) - 1 = i32 (2 ^ n - 1) := by decide +kernel
theorem all_bits : ∀ n, n < 9 → ∀ i, i < n → (2 ^ n - 1).testBit i = true := by decide +kernel
end
section
theorem c_hasText {x : Int32} {I : I2} {J : J2} : CT mX5_hasText 1 58 58 [.ref 1, .int x] I J RF (RI RF (b2i (0 ≤ x ∧ x < I 1 0 ∧ x < 6)) I J) := by
  refine CT_of okX5_hasText (Nat.le_of_ble_eq_true rfl) ?_
  show V _ _ _ _ _ _ [(0, _), (1, _)] _ _ _ _ _
  refine V_go 1 rfl ?_
  refine V_if_lt rfl (fun h1 => ?_) (fun h1 => ?_)
  · skip
    refine V_go 1 rfl ?_
    refine V_zret rfl rfl rfl (by first | exact Or.inl rfl | exact Or.inr rfl | exact b2i_or _ | assumption) ?_
    exact RI.mk (by grind [b2i, i32_ti, tcn])
  · skip
    refine V_go 3 rfl ?_
    refine V_icmp_ge rfl (fun h2 => ?_) (fun h2 => ?_)
    · skip
      refine V_go 1 rfl ?_
      refine V_zret rfl rfl rfl (by first | exact Or.inl rfl | exact Or.inr rfl | exact b2i_or _ | assumption) ?_
      exact RI.mk (by grind [b2i, i32_ti, tcn])
    · skip
      refine V_go 2 rfl ?_
      refine V_icmp_ge rfl (fun h3 => ?_) (fun h3 => ?_)
      · skip
        refine V_go 1 rfl ?_
        refine V_zret rfl rfl rfl (by first | exact Or.inl rfl | exact Or.inr rfl | exact b2i_or _ | assumption) ?_
        exact RI.mk (by grind [b2i, i32_ti, tcn])
      · skip
        refine V_go 2 rfl ?_
        refine V_zret rfl rfl rfl (by first | exact Or.inl rfl | exact Or.inr rfl | exact b2i_or _ | assumption) ?_
        exact RI.mk (by grind [b2i, i32_ti, tcn])
theorem c_isFull {I : I2} {J : J2} : CT mX5_isFull 1 58 58 [.ref 1] I J RF (RI RF (b2i (6 ≤ I 1 0)) I J) := by
  refine CT_of okX5_isFull (Nat.le_of_ble_eq_true rfl) ?_
  show V _ _ _ _ _ _ [(0, _)] _ _ _ _ _
  refine V_go 3 rfl ?_
  refine V_icmp_lt rfl (fun h1 => ?_) (fun h1 => ?_)
  · skip
    refine V_go 1 rfl ?_
    refine V_zret rfl rfl rfl (by first | exact Or.inl rfl | exact Or.inr rfl | exact b2i_or _ | assumption) ?_
    exact RI.mk (by grind [b2i, i32_ti, tcn])
  · skip
    refine V_go 2 rfl ?_
    refine V_zret rfl rfl rfl (by first | exact Or.inl rfl | exact Or.inr rfl | exact b2i_or _ | assumption) ?_
    exact RI.mk (by grind [b2i, i32_ti, tcn])
def vBoth (c a b : Int32) : Int32 := if c = -20 then b2i (a ≠ 0 ∨ b ≠ 0) else if c = -21 then b2i (a ≠ 0 ∧ b ≠ 0) else if c = -22 then b2i (a < b) else if c = -23 then b2i (a = b) else if c = -24 then a + b else if c = -25 then a - b else a * b
def vName (names : Nat → Int32) (c : Int32) : Int32 := if 0 ≤ -1 - c ∧ -1 - c < 6 then names (-1 - c).toNatClampNeg else 0
def vStep (names : Nat → Int32) (c : Int32) (s : Nat × (Nat → Int32)) : Nat × (Nat → Int32) :=
  if -10 < c ∧ s.1 < 160 then (s.1 + 1, upd s.2 s.1 (if 0 ≤ c then c else vName names c))
  else if c = -10 ∧ 1 ≤ s.1 then (s.1, upd s.2 (s.1 - 1) (b2i (s.2 (s.1 - 1) = 0)))
  else if c = -11 ∧ 1 ≤ s.1 then (s.1, upd s.2 (s.1 - 1) (-(s.2 (s.1 - 1))))
  else if c ≤ -20 ∧ 2 ≤ s.1 then (s.1 - 1, upd s.2 (s.1 - 2) (vBoth c (s.2 (s.1 - 2)) (s.2 (s.1 - 1))))
  else s
def vRun (names cells : Nat → Int32) : Nat → Nat → (Nat × (Nat → Int32)) → (Nat × (Nat → Int32))
  | 0, _, s => s
  | n + 1, i, s => vRun names cells n (i + 1) (vStep names (cells i) s)
def vCl (part : Nat) (x : Int32) : Int32 := if part = 0 then x else if 0 < (if x < 60 then x else 60) then (if x < 60 then x else 60) else 0
def vFrom (ends : Nat → Int32) (t part : Nat) : Int32 := if part = 0 then 0 else ends (3 * t + part - 1)
def vCnt (f e : Int32) : Nat := if f < 0 then 0 else (if e < 160 then e.toNatClampNeg else 160) - f.toNatClampNeg
/-- what a text answers, out of its cells (many: how many texts there are) -/
def vVal (cells ends stk : Nat → Int32) (t part : Nat) (names : Nat → Int32) : Int32 :=
  vCl part ((vRun names (fun i => cells (160 * t + i)) (vCnt (vFrom ends t part) (ends (3 * t + part))) (vFrom ends t part).toNatClampNeg (0, stk)).2 0)
theorem up2_row2 {I : I2} {o k : Nat} {g : Nat → Int32} {v : Int32} : up2 (row2 I o g) o k v = row2 I o (upd g k v) := by
  funext i j
  simp only [up2, row2, upd]
  split <;> simp
theorem row2_row2 {I : I2} {o : Nat} {g g' : Nat → Int32} : row2 (row2 I o g) o g' = row2 I o g' := by
  funext i j
  simp only [row2]
  split <;> rfl
theorem row2_self {I : I2} {o : Nat} : row2 I o (I o) = I := by
  funext i j
  simp only [row2]
  split
  · rename_i h; rw [h]
  · rfl
theorem c_ofBoth {c a b : Int32} {I : I2} {J : J2} : CT mX5_ofBoth 1 58 58 [.int c, .int a, .int b] I J RF (RI RF (vBoth c a b) I J) := by
  refine CT_of okX5_ofBoth (Nat.le_of_ble_eq_true rfl) ?_
  show V _ _ _ _ _ _ [(0, _), (1, _), (2, _)] _ _ _ _ _
  refine V_go 1 rfl ?_
  refine V_tswC (v := (-25)) rfl (by decide) (by decide) rfl (fun h2 => ?_) (fun h2 => ?_)
  · skip
    refine V_go 3 rfl ?_
    refine V_iret rfl rfl rfl ?_
    exact RI.mk (by grind [vBoth, b2i])
  refine V_tswC (v := (-24)) rfl (by decide) (by decide) rfl (fun h3 => ?_) (fun h3 => ?_)
  · skip
    refine V_go 3 rfl ?_
    refine V_iret rfl rfl rfl ?_
    exact RI.mk (by grind [vBoth, b2i])
  refine V_tswC (v := (-23)) rfl (by decide) (by decide) rfl (fun h4 => ?_) (fun h4 => ?_)
  · skip
    refine V_go 2 rfl ?_
    refine V_icmp_ne rfl (fun h5 => ?_) (fun h5 => ?_)
    · skip
      refine V_go 1 rfl ?_
      refine V_iret rfl rfl rfl ?_
      exact RI.mk (by grind [vBoth, b2i])
    · skip
      refine V_go 2 rfl ?_
      refine V_iret rfl rfl rfl ?_
      exact RI.mk (by grind [vBoth, b2i])
  refine V_tswC (v := (-22)) rfl (by decide) (by decide) rfl (fun h6 => ?_) (fun h6 => ?_)
  · skip
    refine V_go 2 rfl ?_
    refine V_icmp_ge rfl (fun h7 => ?_) (fun h7 => ?_)
    · skip
      refine V_go 1 rfl ?_
      refine V_iret rfl rfl rfl ?_
      exact RI.mk (by grind [vBoth, b2i])
    · skip
      refine V_go 2 rfl ?_
      refine V_iret rfl rfl rfl ?_
      exact RI.mk (by grind [vBoth, b2i])
  refine V_tswC (v := (-21)) rfl (by decide) (by decide) rfl (fun h8 => ?_) (fun h8 => ?_)
  · skip
    refine V_go 1 rfl ?_
    refine V_if_eq rfl (fun h9 => ?_) (fun h9 => ?_)
    · skip
      refine V_go 1 rfl ?_
      refine V_iret rfl rfl rfl ?_
      exact RI.mk (by grind [vBoth, b2i])
    · skip
      refine V_go 1 rfl ?_
      refine V_if_eq rfl (fun h10 => ?_) (fun h10 => ?_)
      · skip
        refine V_go 1 rfl ?_
        refine V_iret rfl rfl rfl ?_
        exact RI.mk (by grind [vBoth, b2i])
      · skip
        refine V_go 2 rfl ?_
        refine V_iret rfl rfl rfl ?_
        exact RI.mk (by grind [vBoth, b2i])
  refine V_tswC (v := (-20)) rfl (by decide) (by decide) rfl (fun h11 => ?_) (fun h11 => ?_)
  · skip
    refine V_go 1 rfl ?_
    refine V_if_ne rfl (fun h12 => ?_) (fun h12 => ?_)
    · skip
      refine V_go 2 rfl ?_
      refine V_iret rfl rfl rfl ?_
      exact RI.mk (by grind [vBoth, b2i])
    · skip
      refine V_go 1 rfl ?_
      refine V_if_eq rfl (fun h13 => ?_) (fun h13 => ?_)
      · skip
        refine V_go 1 rfl ?_
        refine V_iret rfl rfl rfl ?_
        exact RI.mk (by grind [vBoth, b2i])
      · skip
        refine V_go 2 rfl ?_
        refine V_iret rfl rfl rfl ?_
        exact RI.mk (by grind [vBoth, b2i])
  refine V_tswD rfl (by decide) (by decide) (t9 := 98) rfl (by have q0 := lv_neT h2 (a := -25) (by decide); have q1 := lv_neT h3 (a := -24) (by decide); have q2 := lv_neT h4 (a := -23) (by decide); have q3 := lv_neT h6 (a := -22) (by decide); have q4 := lv_neT h8 (a := -21) (by decide); have q5 := lv_neT h11 (a := -20) (by decide); omega) ?_
  refine V_go 3 rfl ?_
  refine V_iret rfl rfl rfl ?_
  exact RI.mk (by grind [vBoth, b2i])
theorem c_valueOfName {c : Int32} {nm : Nat} {I : I2} {J : J2} (hn : nm = 8 ∨ nm = 16 ∨ nm = 24) : CT mX5_valueOfName 1 58 58 [.int c, .ref nm] I J RF (RI RF (vName (I nm) c) I J) := by
  rcases hn with rfl | rfl | rfl
  all_goals
    refine CT_of okX5_valueOfName (Nat.le_of_ble_eq_true rfl) ?_
    show V _ _ _ _ _ _ [(0, _), (1, _)] _ _ _ _ _
    refine V_go 5 rfl ?_
    refine V_if_lt rfl (fun h1 => ?_) (fun h1 => ?_)
    · skip
      refine V_go 1 rfl ?_
      refine V_iret rfl rfl rfl ?_
      exact RI.mk (by unfold vName; first | rw [if_pos (by grind)] | rw [if_neg (by grind)])
    · skip
      refine V_go 3 rfl ?_
      refine V_icmp_ge rfl (fun h2 => ?_) (fun h2 => ?_)
      · skip
        refine V_go 1 rfl ?_
        refine V_iret rfl rfl rfl ?_
        exact RI.mk (by unfold vName; first | rw [if_pos (by grind)] | rw [if_neg (by grind)])
      · skip
        refine V_go 2 rfl ?_
        refine V_iald rfl rfl (Nat.le_of_ble_eq_true rfl) (inb_ofN (by decide) (by grind [b2i, i32_ti, tcn]) (by grind [b2i, i32_ti, tcn])) ?_
        refine V_go 1 rfl ?_
        refine V_iret rfl rfl rfl ?_
        exact RI.mk (by unfold vName; first | rw [if_pos (by grind)] | rw [if_neg (by grind)])
theorem vCnt_0 {e : Int32} {i : Nat} (hi : i < 161) (hf : i32 i < 0 ∨ e ≤ i32 i ∨ 160 ≤ i32 i) : (if e < 160 then e.toNatClampNeg else 160) - i = 0 := by
  by_cases h : 0 ≤ e
  · grind [i32_ti, tcn]
  · have h1 : e.toNatClampNeg = 0 := by simp [Int32.toNatClampNeg_eq_zero_iff]; grind
    grind [i32_ti]
theorem vCnt_g {f0 e : Int32} (hf : ¬ f0 < 0) (hg : 160 ≤ f0) : vCnt f0 e = 0 := by
  unfold vCnt
  rw [if_neg hf]
  by_cases h : 0 ≤ e
  · grind [tcn]
  · have h1 : e.toNatClampNeg = 0 := by simp [Int32.toNatClampNeg_eq_zero_iff]; grind
    grind [tcn]
theorem vCnt_s {e : Int32} {i : Nat} (hi : i < 161) (h1 : i32 i < e) (h2 : i32 i < 160) : (if e < 160 then e.toNatClampNeg else 160) - i = (if e < 160 then e.toNatClampNeg else 160) - (i + 1) + 1 ∧ i < 160 := by
  grind [i32_ti, tcn]
def Hid (p : Prop) : Prop := p
theorem Hid.un {p : Prop} (h : Hid p) : p := h
theorem i32_ne {p : Nat} (hp : p < 3) (h : ¬ i32 p = 0) : ¬ p = 0 := fun e => h (by rw [e]; rfl)
theorem i32_eq {p : Nat} (hp : p < 3) (h : i32 p = 0) : p = 0 := by grind [i32_ti]
theorem i32_s (i : Nat) : i32 (i + 1) = i32 i + 1 := Int32.ofNat_add i 1
theorem t160 {t i : Nat} (ht : t < 6) (hi : i < 161) : (i32 t * 160 + i32 i).toNatClampNeg = 160 * t + i := by
  have e2 : i32 t * 160 + i32 i = i32 (160 * t + i) := by
    have : t = 0 ∨ t = 1 ∨ t = 2 ∨ t = 3 ∨ t = 4 ∨ t = 5 := by omega
    rcases this with rfl | rfl | rfl | rfl | rfl | rfl <;> grind [i32_ti]
  rw [e2]
  exact Int32.toNatClampNeg_ofNat_of_lt (by omega)
theorem tnx {x : Int32} {n : Nat} (h : x = i32 n) (h2 : n < 2147483648) : x.toNatClampNeg = n := by
  rw [h]
  exact Int32.toNatClampNeg_ofNat_of_lt (by omega)
theorem tn_sub {tp k : Nat} (h : k ≤ tp) (h2 : tp < 161) (h3 : k < 5) : (i32 tp - i32 k).toNatClampNeg = tp - k ∧ i32 tp - i32 k = i32 (tp - k) := by
  have e : i32 tp - i32 k = i32 (tp - k) := by grind [i32_ti]
  exact ⟨by rw [e]; exact Int32.toNatClampNeg_ofNat_of_lt (by omega), e⟩
theorem tn_of {n : Nat} (h : n < 2147483648) : (i32 n).toNatClampNeg = n := Int32.toNatClampNeg_ofNat_of_lt (by omega)
theorem V.st {mt : MT} {sc : Option (Nat × (Nat → Int32))} {d nE : Nat} {Q : QT} {pc : Nat} {L L' : Lc} {st : List Value} {n : Nat} {I I' : I2} {J : J2} {F : F2} (h : V mt sc d nE Q pc L' st n I' J F) (hI : I = I') (hs : ∀ q ∈ L', q ∈ L) : V mt sc d nE Q pc L st n I J F := by
  subst hI
  exact h.weak hs
theorem c_value0 {t part nm : Nat} {I : I2} {J : J2} (ht : t < 6) (hp : part < 3) (hnm : nm = 8 ∨ nm = 16 ∨ nm = 24) (hm : i32 t < I 1 0) : CT mX5_value 2 58 58 [.ref 1, .int (i32 t), .int (i32 part), .ref nm] I J RF (RP RF (fun r I1 J1 => r = vVal (I 2) (I 3) (I 4) t part (I nm) ∧ J1 = J ∧ ∃ g, I1 = row2 I 4 g)) := by
  refine CT_of okX5_value (Nat.le_of_ble_eq_true rfl) ?_
  show V _ _ _ _ _ _ [(0, _), (1, _), (2, _), (3, _)] _ _ _ _ _
  have hnm2 : nm ≠ 4 := by omega
  have last0 : Hid (∀ (f0 e : Int32)(i tp : Nat) (z : Int32) (stk : Nat → Int32), V mX5_value none 2 58 (RP RF (fun r I1 J1 => r = vCl part ((vRun (I nm) (fun i => I 2 (160 * t + i)) 0 i (tp, stk)).2 0) ∧ J1 = J ∧ ∃ g, I1 = row2 I 4 g)) 268 [(0, .ref 1), (1, .int (i32 t)), (2, .int (i32 part)), (3, .ref nm), (4, .int f0), (5, .int e), (6, .int (i32 tp)), (7, .int z)] [] 58 (row2 I 4 stk) J RF) := by
      unfold Hid
      intro f0 e i tp z stk
      refine V_go 1 rfl ?_
      refine V_if_ne rfl (fun h1 => ?_) (fun h1 => ?_)
      · skip
        refine V_go 5 rfl ?_
        refine V_iald rfl rfl (Nat.le_of_ble_eq_true rfl) (inb_ofN (by decide) (by decide) (by decide)) ?_
        refine V_mmin (wl1 := 384) (wst := 385) (wi1 := 119) (wc1 := 386) rfl (by decide +kernel) (by decide +kernel) (by decide +kernel) (by decide +kernel) (Nat.le_of_ble_eq_true rfl) (Nat.le_of_ble_eq_true rfl) ?_
        refine V_mmax (wl1 := 387) (wst := 388) (wi1 := 119) (wc1 := 389) rfl (by decide +kernel) (by decide +kernel) (by decide +kernel) (by decide +kernel) (Nat.le_of_ble_eq_true rfl) (Nat.le_of_ble_eq_true rfl) ?_
        refine V_iret rfl rfl rfl ?_
        refine RP.mk ⟨?_, rfl, _, rfl⟩
        first | (simp only [vRun, vCl, row2_rd, reduceIte]; rw [if_pos (i32_eq hp h1)]; rfl) | (simp only [vRun, vCl, row2_rd, reduceIte]; rw [if_neg (i32_ne hp h1)]; rfl)
      · skip
        refine V_go 3 rfl ?_
        refine V_iald rfl rfl (Nat.le_of_ble_eq_true rfl) (inb_ofN (by decide) (by decide) (by decide)) ?_
        refine V_go 1 rfl ?_
        refine V_iret rfl rfl rfl ?_
        refine RP.mk ⟨?_, rfl, _, rfl⟩
        first | (simp only [vRun, vCl, row2_rd, reduceIte]; rw [if_pos (i32_eq hp h1)]; rfl) | (simp only [vRun, vCl, row2_rd, reduceIte]; rw [if_neg (i32_ne hp h1)]; rfl)
  have key : Hid (∀ (f0 e : Int32) (n : Nat), Hid (∀ (i tp : Nat) (stk : Nat → Int32), (if e < 160 then e.toNatClampNeg else 160) - i = n → i < 161 → tp < 161 → V mX5_value none 2 58 (RP RF (fun r I1 J1 => r = vCl part ((vRun (I nm) (fun i => I 2 (160 * t + i)) n i (tp, stk)).2 0) ∧ J1 = J ∧ ∃ g, I1 = row2 I 4 g)) 60 [(0, .ref 1), (1, .int (i32 t)), (2, .int (i32 part)), (3, .ref nm), (4, .int f0), (5, .int e), (6, .int (i32 tp)), (7, .int (i32 i))] [] 58 (row2 I 4 stk) J RF)) := by
    show ∀ _ _ _, Hid _
    intro f0 e n
    have last : Hid _ := last0.un f0 e
    induction n with
    | zero =>
      unfold Hid
      intro i tp stk hn hi htp
      have hz : i32 i < 0 ∨ e ≤ i32 i ∨ 160 ≤ i32 i := by
        rcases Decidable.em (i32 i < 0 ∨ e ≤ i32 i ∨ 160 ≤ i32 i) with h | h
        · exact h
        · exfalso
          have := vCnt_s (e := e) hi (by grind) (by grind)
          omega
      refine V_go 1 rfl ?_
      refine V_if_lt rfl (fun h1 => ?_) (fun h1 => ?_)
      · skip
        exact last.un i tp _ stk
      · skip
        refine V_go 2 rfl ?_
        refine V_icmp_ge rfl (fun h2 => ?_) (fun h2 => ?_)
        · skip
          exact last.un i tp _ stk
        · skip
          refine V_go 2 rfl ?_
          refine V_icmp_ge rfl (fun h3 => ?_) (fun h3 => ?_)
          · skip
            exact last.un i tp _ stk
          · skip
            exfalso
            grind
    | succ n ih =>
      show ∀ _ _ _, _
      intro i tp stk hn hi htp
      have step : Hid (∀ (tp2 : Nat) (g : Nat → Int32) (I9 : I2) (L9 : Lc), vStep (I nm) (I 2 (160 * t + i)) (tp, stk) = (tp2, g) → tp2 < 161 → i < 160 → I9 = row2 I 4 g → (∀ q ∈ ([(0, .ref 1), (1, .int (i32 t)), (2, .int (i32 part)), (3, .ref nm), (4, .int f0), (5, .int e), (6, .int (i32 tp2)), (7, .int (i32 (i + 1)))] : Lc), q ∈ L9) → V mX5_value none 2 58 (RP RF (fun r I1 J1 => r = vCl part ((vRun (I nm) (fun i => I 2 (160 * t + i)) (n + 1) i (tp, stk)).2 0) ∧ J1 = J ∧ ∃ g, I1 = row2 I 4 g)) 60 L9 [] 58 I9 J RF) := by
        unfold Hid
        intro tp2 g I9 L9 h1 h2 h2b h3 h4
        refine V.st ?_ h3 h4
        have e9 := ih.un (i + 1) tp2 g (by omega) (by omega) h2
        have e8 : vRun (I nm) (fun i => I 2 (160 * t + i)) (n + 1) i (tp, stk) = vRun (I nm) (fun i => I 2 (160 * t + i)) n (i + 1) (tp2, g) := by
          simp only [vRun]
          rw [h1]
        rw [e8]
        exact e9
      have ei := i32_s i
      have hidx := t160 ht hi
      have j95 : Hid (∀ c : Int32, c = I 2 (160 * t + i) → i < 160 → V mX5_value none 2 58 (RP RF (fun r I1 J1 => r = vCl part ((vRun (I nm) (fun i => I 2 (160 * t + i)) (n + 1) i (tp, stk)).2 0) ∧ J1 = J ∧ ∃ g, I1 = row2 I 4 g)) 95 [(0, .ref 1), (1, .int (i32 t)), (2, .int (i32 part)), (3, .ref nm), (4, .int f0), (5, .int e), (6, .int (i32 tp)), (7, .int (i32 i)), (8, .int c)] [] 58 (row2 I 4 stk) J RF) := by
        unfold Hid
        intro c hc h2b
        have j262 : Hid (∀ (tp2 : Nat) (g : Nat → Int32) (I9 : I2), vStep (I nm) c (tp, stk) = (tp2, g) → tp2 < 161 → I9 = row2 I 4 g → V mX5_value none 2 58 (RP RF (fun r I1 J1 => r = vCl part ((vRun (I nm) (fun i => I 2 (160 * t + i)) (n + 1) i (tp, stk)).2 0) ∧ J1 = J ∧ ∃ g, I1 = row2 I 4 g)) 262 [(0, .ref 1), (1, .int (i32 t)), (2, .int (i32 part)), (3, .ref nm), (4, .int f0), (5, .int e), (6, .int (i32 tp2)), (7, .int (i32 i)), (8, .int c)] [] 58 I9 J RF) := by
          unfold Hid
          intro tp2 g I9 h1 h2 h3
          rw [hc] at h1
          refine V_go 2 rfl ?_
          exact step.un tp2 g _ _ h1 h2 h2b h3 (by rw [ei]; simp)
        have j216 : Hid (¬ (-10 < c ∧ tp < 160) → ¬ (c = -10 ∧ 1 ≤ tp) → ¬ (c = -11 ∧ 1 ≤ tp) → V mX5_value none 2 58 (RP RF (fun r I1 J1 => r = vCl part ((vRun (I nm) (fun i => I 2 (160 * t + i)) (n + 1) i (tp, stk)).2 0) ∧ J1 = J ∧ ∃ g, I1 = row2 I 4 g)) 216 [(0, .ref 1), (1, .int (i32 t)), (2, .int (i32 part)), (3, .ref nm), (4, .int f0), (5, .int e), (6, .int (i32 tp)), (7, .int (i32 i)), (8, .int c)] [] 58 (row2 I 4 stk) J RF) := by
          unfold Hid
          intro q1 q2 q3
          refine V_go 2 rfl ?_
          refine V_icmp_gt rfl (fun h1 => ?_) (fun h1 => ?_)
          · skip
            exact j262.un tp stk _ (by unfold vStep; rw [if_neg q1, if_neg q2, if_neg q3, if_neg (by grind [i32_ti])]) htp rfl
          · skip
            refine V_go 2 rfl ?_
            refine V_icmp_lt rfl (fun h2 => ?_) (fun h2 => ?_)
            · skip
              exact j262.un tp stk _ (by unfold vStep; rw [if_neg q1, if_neg q2, if_neg q3, if_neg (by grind [i32_ti])]) htp rfl
            · skip
              refine V_go 12 rfl ?_
              refine V_iald rfl rfl (Nat.le_of_ble_eq_true rfl) (inb_ofN (by decide) (by grind [i32_ti]) (by grind [i32_ti])) ?_
              refine V_go 3 rfl ?_
              refine V_iald rfl rfl (Nat.le_of_ble_eq_true rfl) (inb_ofN (by decide) (by grind [i32_ti]) (by grind [i32_ti])) ?_
              refine cSI (mt' := mX5_ofBoth) rfl kX5_52 fX5_ofBoth rfl (Nat.le_of_ble_eq_true rfl) (Nat.le_of_ble_eq_true rfl) (Nat.le_refl _) (c_ofBoth) ?_
              refine V_iast rfl rfl (Nat.le_of_ble_eq_true rfl) (inb_ofN (by decide) (by grind [i32_ti]) (by grind [i32_ti])) ?_
              have a1 : (i32 tp + -1).toNatClampNeg = tp - 1 := tnx (by grind [i32_ti]) (by omega)
              have a2 : (i32 tp + -1 - 1).toNatClampNeg = tp - 2 := tnx (by grind [i32_ti]) (by omega)
              have a3 : i32 tp + -1 = i32 (tp - 1) := by grind [i32_ti]
              simp only [a1, a2, row2_rd, reduceIte]
              rw [a3]
              exact j262.un (tp - 1) _ _ (by unfold vStep; rw [if_neg q1, if_neg q2, if_neg q3, if_pos (by grind [i32_ti])]) (by omega) up2_row2
        have j181 : Hid (¬ (-10 < c ∧ tp < 160) → ¬ (c = -10 ∧ 1 ≤ tp) → V mX5_value none 2 58 (RP RF (fun r I1 J1 => r = vCl part ((vRun (I nm) (fun i => I 2 (160 * t + i)) (n + 1) i (tp, stk)).2 0) ∧ J1 = J ∧ ∃ g, I1 = row2 I 4 g)) 181 [(0, .ref 1), (1, .int (i32 t)), (2, .int (i32 part)), (3, .ref nm), (4, .int f0), (5, .int e), (6, .int (i32 tp)), (7, .int (i32 i)), (8, .int c)] [] 58 (row2 I 4 stk) J RF) := by
          unfold Hid
          intro q1 q2
          refine V_go 2 rfl ?_
          refine V_icmp_ne rfl (fun h1 => ?_) (fun h1 => ?_)
          · skip
            exact j216.un q1 q2 (by grind [i32_ti])
          · skip
            refine V_go 2 rfl ?_
            refine V_icmp_lt rfl (fun h2 => ?_) (fun h2 => ?_)
            · skip
              exact j216.un q1 q2 (by grind [i32_ti])
            · skip
              refine V_go 10 rfl ?_
              refine V_iald rfl rfl (Nat.le_of_ble_eq_true rfl) (inb_ofN (by decide) (by grind [i32_ti]) (by grind [i32_ti])) ?_
              refine V_go 1 rfl ?_
              refine V_iast rfl rfl (Nat.le_of_ble_eq_true rfl) (inb_ofN (by decide) (by grind [i32_ti]) (by grind [i32_ti])) ?_
              refine V_go 1 rfl ?_
              have a1 : (i32 tp - 1).toNatClampNeg = tp - 1 := tnx (by grind [i32_ti]) (by grind [i32_ti])
              simp only [a1, row2_rd, reduceIte]
              exact j262.un tp _ _ (by unfold vStep; rw [if_neg q1, if_neg q2, if_pos (by grind [i32_ti])]) htp up2_row2
        have j139 : Hid (¬ (-10 < c ∧ tp < 160) → V mX5_value none 2 58 (RP RF (fun r I1 J1 => r = vCl part ((vRun (I nm) (fun i => I 2 (160 * t + i)) (n + 1) i (tp, stk)).2 0) ∧ J1 = J ∧ ∃ g, I1 = row2 I 4 g)) 139 [(0, .ref 1), (1, .int (i32 t)), (2, .int (i32 part)), (3, .ref nm), (4, .int f0), (5, .int e), (6, .int (i32 tp)), (7, .int (i32 i)), (8, .int c)] [] 58 (row2 I 4 stk) J RF) := by
          unfold Hid
          intro q1
          refine V_go 2 rfl ?_
          refine V_icmp_ne rfl (fun h1 => ?_) (fun h1 => ?_)
          · skip
            exact j181.un q1 (by grind [i32_ti])
          · skip
            refine V_go 2 rfl ?_
            refine V_icmp_lt rfl (fun h2 => ?_) (fun h2 => ?_)
            · skip
              exact j181.un q1 (by grind [i32_ti])
            · skip
              refine V_go 10 rfl ?_
              refine V_iald rfl rfl (Nat.le_of_ble_eq_true rfl) (inb_ofN (by decide) (by grind [i32_ti]) (by grind [i32_ti])) ?_
              refine V_if_ne rfl (fun h3 => ?_) (fun h3 => ?_)
              · skip
                refine V_go 1 rfl ?_
                refine V_iast rfl rfl (Nat.le_of_ble_eq_true rfl) (inb_ofN (by decide) (by grind [i32_ti]) (by grind [i32_ti])) ?_
                refine V_go 1 rfl ?_
                have a1 : (i32 tp - 1).toNatClampNeg = tp - 1 := tnx (by grind [i32_ti]) (by grind [i32_ti])
                simp only [a1, row2_rd, reduceIte] at *
                exact j262.un tp _ _ (by unfold vStep; rw [if_neg q1, if_pos (by grind [i32_ti])]; simp [b2i, *]) htp up2_row2
              · skip
                refine V_go 2 rfl ?_
                refine V_iast rfl rfl (Nat.le_of_ble_eq_true rfl) (inb_ofN (by decide) (by grind [i32_ti]) (by grind [i32_ti])) ?_
                refine V_go 1 rfl ?_
                have a1 : (i32 tp - 1).toNatClampNeg = tp - 1 := tnx (by grind [i32_ti]) (by grind [i32_ti])
                simp only [a1, row2_rd, reduceIte] at *
                exact j262.un tp _ _ (by unfold vStep; rw [if_neg q1, if_pos (by grind [i32_ti])]; simp [b2i, *]) htp up2_row2
        refine V_go 2 rfl ?_
        refine V_icmp_le rfl (fun h1 => ?_) (fun h1 => ?_)
        · skip
          exact j139.un (by grind [i32_ti])
        · skip
          refine V_go 2 rfl ?_
          refine V_icmp_ge rfl (fun h2 => ?_) (fun h2 => ?_)
          · skip
            exact j139.un (by grind [i32_ti])
          · skip
            refine V_go 4 rfl ?_
            refine V_if_lt rfl (fun h3 => ?_) (fun h3 => ?_)
            · skip
              refine V_go 2 rfl ?_
              refine cSI (mt' := mX5_valueOfName) rfl kX5_48 fX5_valueOfName rfl (Nat.le_of_ble_eq_true rfl) (Nat.le_of_ble_eq_true rfl) (Nat.le_refl _) (c_valueOfName hnm) ?_
              refine V_iast rfl rfl (Nat.le_of_ble_eq_true rfl) (inb_ofN (by decide) (by grind [i32_ti]) (by grind [i32_ti])) ?_
              refine V_go 2 rfl ?_
              have a1 : (i32 tp).toNatClampNeg = tp := tn_of (by omega)
              have a3 : i32 tp + 1 = i32 (tp + 1) := (i32_s tp).symm
              simp only [a1]
              rw [a3]
              first
                | exact j262.un (tp + 1) _ _ (by unfold vStep; rw [if_pos (by grind [i32_ti]), if_pos (by grind)]) (by grind [i32_ti]) up2_row2
                | exact j262.un (tp + 1) _ _ (by unfold vStep; rw [if_pos (by grind [i32_ti]), if_neg (by grind)]) (by grind [i32_ti]) (by rw [up2_row2, row2_ne hnm2])
            · skip
              refine V_go 2 rfl ?_
              refine V_iast rfl rfl (Nat.le_of_ble_eq_true rfl) (inb_ofN (by decide) (by grind [i32_ti]) (by grind [i32_ti])) ?_
              refine V_go 2 rfl ?_
              have a1 : (i32 tp).toNatClampNeg = tp := tn_of (by omega)
              have a3 : i32 tp + 1 = i32 (tp + 1) := (i32_s tp).symm
              simp only [a1]
              rw [a3]
              first
                | exact j262.un (tp + 1) _ _ (by unfold vStep; rw [if_pos (by grind [i32_ti]), if_pos (by grind)]) (by grind [i32_ti]) up2_row2
                | exact j262.un (tp + 1) _ _ (by unfold vStep; rw [if_pos (by grind [i32_ti]), if_neg (by grind)]) (by grind [i32_ti]) (by rw [up2_row2, row2_ne hnm2])
      refine V_go 1 rfl ?_
      refine V_if_lt rfl (fun h1 => ?_) (fun h1 => ?_)
      · skip
        exfalso
        have := vCnt_0 (e := e) hi (by grind)
        omega
      · skip
        refine V_go 2 rfl ?_
        refine V_icmp_ge rfl (fun h2 => ?_) (fun h2 => ?_)
        · skip
          exfalso
          have := vCnt_0 (e := e) hi (by grind)
          omega
        · skip
          refine V_go 2 rfl ?_
          refine V_icmp_ge rfl (fun h3 => ?_) (fun h3 => ?_)
          · skip
            exfalso
            have := vCnt_0 (e := e) hi (by grind)
            omega
          · skip
            refine V_go 7 rfl ?_
            refine V_iald rfl rfl (Nat.le_of_ble_eq_true rfl) (inb_ofN (by decide) (by grind [i32_ti]) (by grind [i32_ti])) ?_
            refine V_go 1 rfl ?_
            exact j95.un _ (by rw [hidx]; rfl) (by grind [i32_ti])
  have head : Hid (∀ f0 e : Int32, f0 = vFrom (I 3) t part → e = I 3 (3 * t + part) → V mX5_value none 2 58 (RP RF (fun r I1 J1 => r = vVal (I 2) (I 3) (I 4) t part (I nm) ∧ J1 = J ∧ ∃ g, I1 = row2 I 4 g)) 60 [(0, .ref 1), (1, .int (i32 t)), (2, .int (i32 part)), (3, .ref nm), (4, .int f0), (5, .int e), (6, .int 0), (7, .int f0)] [] 58 I J RF) := by
    unfold Hid
    intro f0 e q1 q2
    unfold vVal
    rw [← q1, ← q2]
    have hI : I = row2 I 4 (I 4) := row2_self.symm
    by_cases hf : f0 < 0
    · rw [show vCnt f0 e = 0 by unfold vCnt; rw [if_pos hf]]
      have e1 := last0.un f0 e f0.toNatClampNeg 0 f0 (I 4)
      rw [← hI] at e1
      refine V_go 1 rfl ?_
      exact V_if_lt rfl (fun _ => e1) (fun h => absurd hf h)
    · by_cases hg : 160 ≤ f0
      · rw [show vCnt f0 e = 0 by exact vCnt_g hf hg]
        have e1 := last0.un f0 e f0.toNatClampNeg 0 f0 (I 4)
        rw [← hI] at e1
        refine V_go 1 rfl ?_
        refine V_if_lt rfl (fun h => absurd h hf) (fun _ => ?_)
        refine V_go 2 rfl ?_
        refine V_icmp_ge rfl (fun _ => e1) (fun _ => ?_)
        refine V_go 2 rfl ?_
        exact V_icmp_ge rfl (fun _ => e1) (fun h => absurd hg h)
      · have e1 := (key.un f0 e (vCnt f0 e)).un f0.toNatClampNeg 0 (I 4) (by unfold vCnt; rw [if_neg hf]) (by grind [tcn]) (by omega)
        have e0 : i32 f0.toNatClampNeg = f0 := Int32.ofNat_toNatClampNeg _ (by grind)
        rw [← hI, e0] at e1
        exact e1
  refine V_go 2 rfl ?_
  refine cVI (mt' := mX5_hasText) rfl kX5_44 fX5_hasText rfl rfl rfl (Nat.le_of_ble_eq_true rfl) (Nat.le_of_ble_eq_true rfl) (Nat.le_of_ble_eq_true rfl) (Nat.le_of_ble_eq_true rfl) (Nat.le_refl _) (c_hasText) ?_
  refine V_if_eq rfl (fun h2 => ?_) (fun h2 => ?_)
  · skip
    refine V_go 1 rfl ?_
    refine V_iret rfl rfl rfl ?_
    exfalso
    grind [b2i, i32_ti]
  · skip
    refine V_go 1 rfl ?_
    refine V_if_lt rfl (fun h3 => ?_) (fun h3 => ?_)
    · skip
      refine V_go 1 rfl ?_
      refine V_iret rfl rfl rfl ?_
      exfalso
      grind [b2i, i32_ti]
    · skip
      refine V_go 2 rfl ?_
      refine V_icmp_le rfl (fun h4 => ?_) (fun h4 => ?_)
      · skip
        refine V_go 1 rfl ?_
        refine V_if_ne rfl (fun h5 => ?_) (fun h5 => ?_)
        · skip
          refine V_go 9 rfl ?_
          refine V_iald rfl rfl (Nat.le_of_ble_eq_true rfl) (inb_ofN (by decide) (by grind [i32_ti]) (by grind [i32_ti])) ?_
          refine V_go 8 rfl ?_
          refine V_iald rfl rfl (Nat.le_of_ble_eq_true rfl) (inb_ofN (by decide) (by grind [i32_ti]) (by grind [i32_ti])) ?_
          refine V_go 5 rfl ?_
          exact head.un _ _ (by unfold vFrom; first | rw [if_pos (i32_eq hp ‹_›)] | (rw [if_neg (i32_ne hp ‹_›)]; congr 1; exact tnx (by grind [i32_ti]) (by omega))) (by congr 1; exact tnx (by grind [i32_ti]) (by omega))
        · skip
          refine V_go 10 rfl ?_
          refine V_iald rfl rfl (Nat.le_of_ble_eq_true rfl) (inb_ofN (by decide) (by grind [i32_ti]) (by grind [i32_ti])) ?_
          refine V_go 5 rfl ?_
          exact head.un _ _ (by unfold vFrom; first | rw [if_pos (i32_eq hp ‹_›)] | (rw [if_neg (i32_ne hp ‹_›)]; congr 1; exact tnx (by grind [i32_ti]) (by omega))) (by congr 1; exact tnx (by grind [i32_ti]) (by omega))
      · skip
        refine V_go 1 rfl ?_
        refine V_iret rfl rfl rfl ?_
        exfalso
        grind [b2i, i32_ti]
end
section
theorem c_bitCount {x : Int32} {I : I2} {J : J2} : CT mJ6_bitCount_0f7a4 1 58 58 [.int x] I J RF (RI RF (bitc x) I J) := by
  refine CT_of okJ6_bitCount_0f7a4 (Nat.le_of_ble_eq_true rfl) ?_
  show V _ _ _ _ _ _ [(0, _)] _ _ _ _ _
  refine V_go 41 rfl ?_
  refine V_iret rfl rfl rfl ?_
  exact RI.mk rfl
def EvC (I : I2) (T : TV) : Prop := 1 ≤ I 1 0 ∧ I 1 0 ≤ 6 ∧ ∀ (t part : Nat) (stk names : Nat → Int32), i32 t < I 1 0 → t < 6 → part < 3 → vVal (I 2) (I 3) stk t part names = T (i32 t) part (names 0) (names 1) (names 2) (names 3) (names 4) (names 5)
/-- but for what is worked with -/
def Sq (o : Nat) (I I1 : I2) : Prop := ∀ a, a ≠ 4 → a ≠ o + 1 → I1 a = I a
def Cok (I : I2) (o : Nat) (T : TV) : Prop := oC o ∧ EvC I T ∧ 0 ≤ I o 4 ∧ I o 4 < I 1 0 ∧ 0 ≤ I o 5 ∧ I o 5 ≤ 8 ∧ 0 ≤ I o 9 ∧ I o 9 ≤ 6
theorem Sq.rf {o : Nat} {I : I2} : Sq o I I := fun _ _ _ => rfl
theorem Sq.tr {o : Nat} {I I1 I2' : I2} (h1 : Sq o I I1) (h2 : Sq o I1 I2') : Sq o I I2' := fun a h3 h4 => (h2 a h3 h4).trans (h1 a h3 h4)
theorem Sq.row4 {o : Nat} {I : I2} {g : Nat → Int32} : Sq o I (row2 I 4 g) := fun a h _ => row2_ne h
theorem Sq.rowN {o : Nat} {I : I2} {g : Nat → Int32} : Sq o I (row2 I (o + 1) g) := fun a _ h => row2_ne h
theorem Cok.sq {I I1 : I2} {o : Nat} {T : TV} (h : Cok I o T) (q : Sq o I I1) : Cok I1 o T := by
  obtain ⟨ho, ⟨h1, h2, h3⟩, h4⟩ := h
  have e1 : I1 1 = I 1 := q 1 (by omega) (by rcases ho with rfl | rfl | rfl <;> omega)
  have e2 : I1 2 = I 2 := q 2 (by omega) (by rcases ho with rfl | rfl | rfl <;> omega)
  have e3 : I1 3 = I 3 := q 3 (by omega) (by rcases ho with rfl | rfl | rfl <;> omega)
  have e4 : I1 o = I o := q o (by rcases ho with rfl | rfl | rfl <;> omega) (by omega)
  refine ⟨ho, ⟨?_, ?_, ?_⟩, ?_⟩
  · rw [e1]; exact h1
  · rw [e1]; exact h2
  · rw [e1, e2, e3]; exact h3
  · rw [e4, e1]; exact h4
theorem cOf_sq {I I1 : I2} {o : Nat} (ho : oC o) (q : Sq o I I1) : cOf I1 o = cOf I o := by
  have e (k : Nat) (h : k ≠ 1) (h2 : k < 8) : I1 (o + k) = I (o + k) := q _ (by rcases ho with rfl | rfl | rfl <;> omega) (by omega)
  funext g j
  have h0 := e 0 (by omega) (by omega)
  simp only [Nat.add_zero] at h0
  simp only [cOf, h0, e 2 (by omega) (by omega), e 3 (by omega) (by omega), e 4 (by omega) (by omega), e 5 (by omega) (by omega), e 6 (by omega) (by omega), e 7 (by omega) (by omega)]
theorem nC_lt {I : I2} {o c : Nat} (h0 : 0 ≤ I o 5) (h8 : I o 5 ≤ 8) (hc : c < nC (cOf I o)) : c < 8 ∧ i32 c < I o 5 ∧ 0 ≤ i32 c ∧ i32 c < 8 ∧ (i32 c).toNatClampNeg = c := by
  have h1 : c < (I o 5).toNatClampNeg := hc
  have h2 := tcn (I o 5) h0
  have h3 : c < 8 := by grind
  exact ⟨h3, by grind [i32_ti], by grind [i32_ti], by grind [i32_ti], tn_of (by omega)⟩
def lookG (I : I2) (o c m : Nat) : Nat → Int32 := fun j => if j = 0 then I (o + 3) c else if j = 1 then I (o + 4) c else if j = 2 then I o 2 else if j = 3 then i32 (cnt m c) else if j = 4 then i32 c else if j = 5 then I o 5 else I (o + 1) j
theorem c_value {t part nm : Nat} {I : I2} {J : J2} {T : TV} (ht : t < 6) (hp : part < 3) (hnm : nm = 8 ∨ nm = 16 ∨ nm = 24) (hm : i32 t < I 1 0) (hT : EvC I T) : CT mX5_value 2 58 58 [.ref 1, .int (i32 t), .int (i32 part), .ref nm] I J RF (RP RF (fun r I1 J1 => r = T (i32 t) part (I nm 0) (I nm 1) (I nm 2) (I nm 3) (I nm 4) (I nm 5) ∧ J1 = J ∧ ∃ g, I1 = row2 I 4 g)) := by
  have h := c_value0 (J := J) ht hp hnm hm
  rw [hT.2.2 t part (I 4) (I nm) hm ht hp] at h
  exact h
theorem c_lookAt {o c m : Nat} {I : I2} {J : J2} (ho : oC o) (h0 : 0 ≤ I o 5) (h8 : I o 5 ≤ 8) (hc : c < nC (cOf I o)) (hm : m < 256) : CT mX0_lookAt 2 58 58 [.ref o, .int (i32 c), .int (i32 m)] I J RF (RV RF (row2 I (o + 1) (lookG I o c m)) J) := by
  rcases ho with rfl | rfl | rfl
  all_goals
    obtain ⟨hc8, hcn, hc0, hcx, hct⟩ := nC_lt h0 h8 hc
    refine CT_of okX0_lookAt (Nat.le_of_ble_eq_true rfl) ?_
    show V _ _ _ _ _ _ [(0, _), (1, _), (2, _)] _ _ _ _ _
    refine V_go 2 rfl ?_
    try simp only [up2_rd, row2_rd, reduceIte, Nat.reduceEqDiff]
    refine cVI (mt' := mX0_hasCitizen) rfl kX0_61 fX0_hasCitizen rfl rfl rfl (Nat.le_of_ble_eq_true rfl) (Nat.le_of_ble_eq_true rfl) (Nat.le_of_ble_eq_true rfl) (Nat.le_of_ble_eq_true rfl) (Nat.le_refl _) (c_hasCitizen (by unfold oC; decide)) ?_
    refine V_if_eq rfl (fun h2 => ?_) (fun h2 => ?_)
    · skip
      refine V_vret rfl rfl rfl ?_
      first
        | (refine RV.mk2 ?_
           simp only [hct, bitc_ok m hm c (by omega)]
           funext a b
           simp only [up2_rd, row2_rd, lookG, Nat.reduceAdd]
           grind)
        | (exfalso; grind [b2i])
    · skip
      refine V_go 6 rfl ?_
      try simp only [up2_rd, row2_rd, reduceIte, Nat.reduceEqDiff]
      refine V_iald rfl rfl (Nat.le_of_ble_eq_true rfl) (inb_ofN (by decide) (by grind [b2i, i32_ti, tcn]) (by grind [b2i, i32_ti, tcn])) ?_
      try simp only [up2_rd, row2_rd, reduceIte, Nat.reduceEqDiff]
      refine V_iast rfl rfl (Nat.le_of_ble_eq_true rfl) (inb_ofN (by decide) (by grind [b2i, i32_ti, tcn]) (by grind [b2i, i32_ti, tcn])) ?_
      refine V_go 6 rfl ?_
      try simp only [up2_rd, row2_rd, reduceIte, Nat.reduceEqDiff]
      refine V_iald rfl rfl (Nat.le_of_ble_eq_true rfl) (inb_ofN (by decide) (by grind [b2i, i32_ti, tcn]) (by grind [b2i, i32_ti, tcn])) ?_
      try simp only [up2_rd, row2_rd, reduceIte, Nat.reduceEqDiff]
      refine V_iast rfl rfl (Nat.le_of_ble_eq_true rfl) (inb_ofN (by decide) (by grind [b2i, i32_ti, tcn]) (by grind [b2i, i32_ti, tcn])) ?_
      refine V_go 5 rfl ?_
      try simp only [up2_rd, row2_rd, reduceIte, Nat.reduceEqDiff]
      refine V_iast rfl rfl (Nat.le_of_ble_eq_true rfl) (inb_ofN (by decide) (by grind [b2i, i32_ti, tcn]) (by grind [b2i, i32_ti, tcn])) ?_
      refine V_go 10 rfl ?_
      try simp only [up2_rd, row2_rd, reduceIte, Nat.reduceEqDiff]
      refine cSI (mt' := mJ6_bitCount_0f7a4) rfl kX0_76 fJ6_bitCount_0f7a4 rfl (Nat.le_of_ble_eq_true rfl) (Nat.le_of_ble_eq_true rfl) (Nat.le_refl _) (c_bitCount) ?_
      refine V_iast rfl rfl (Nat.le_of_ble_eq_true rfl) (inb_ofN (by decide) (by grind [b2i, i32_ti, tcn]) (by grind [b2i, i32_ti, tcn])) ?_
      refine V_go 4 rfl ?_
      try simp only [up2_rd, row2_rd, reduceIte, Nat.reduceEqDiff]
      refine V_iast rfl rfl (Nat.le_of_ble_eq_true rfl) (inb_ofN (by decide) (by grind [b2i, i32_ti, tcn]) (by grind [b2i, i32_ti, tcn])) ?_
      refine V_go 5 rfl ?_
      try simp only [up2_rd, row2_rd, reduceIte, Nat.reduceEqDiff]
      refine V_iast rfl rfl (Nat.le_of_ble_eq_true rfl) (inb_ofN (by decide) (by grind [b2i, i32_ti, tcn]) (by grind [b2i, i32_ti, tcn])) ?_
      refine V_vret rfl rfl rfl ?_
      first
        | (refine RV.mk2 ?_
           simp only [hct, bitc_ok m hm c (by omega)]
           funext a b
           simp only [up2_rd, row2_rd, lookG, Nat.reduceAdd]
           grind)
        | (exfalso; grind [b2i])
end
section
theorem c_value_0 {x : Int32} {nm : Nat} {I : I2} {J : J2} {T : TV} (hnm : nm = 8 ∨ nm = 16 ∨ nm = 24) (h0 : 0 ≤ x) (hm : x < I 1 0) (hT : EvC I T) : CT mX5_value 2 58 58 [.ref 1, .int x, .int 0, .ref nm] I J RF (RP RF (fun r I1 J1 => r = T x 0 (I nm 0) (I nm 1) (I nm 2) (I nm 3) (I nm 4) (I nm 5) ∧ J1 = J ∧ ∃ g, I1 = row2 I 4 g)) := by
  have e : i32 x.toNatClampNeg = x := Int32.ofNat_toNatClampNeg _ h0
  have h6 : x < 6 := by have := hT.2.1; grind
  have h := c_value (t := x.toNatClampNeg) (part := 0) (J := J) (by grind [tcn]) (by omega) hnm (by rw [e]; exact hm) hT
  rw [e] at h
  exact h
theorem c_value_1 {x : Int32} {nm : Nat} {I : I2} {J : J2} {T : TV} (hnm : nm = 8 ∨ nm = 16 ∨ nm = 24) (h0 : 0 ≤ x) (hm : x < I 1 0) (hT : EvC I T) : CT mX5_value 2 58 58 [.ref 1, .int x, .int 1, .ref nm] I J RF (RP RF (fun r I1 J1 => r = T x 1 (I nm 0) (I nm 1) (I nm 2) (I nm 3) (I nm 4) (I nm 5) ∧ J1 = J ∧ ∃ g, I1 = row2 I 4 g)) := by
  have e : i32 x.toNatClampNeg = x := Int32.ofNat_toNatClampNeg _ h0
  have h6 : x < 6 := by have := hT.2.1; grind
  have h := c_value (t := x.toNatClampNeg) (part := 1) (J := J) (by grind [tcn]) (by omega) hnm (by rw [e]; exact hm) hT
  rw [e] at h
  exact h
theorem c_value_2 {x : Int32} {nm : Nat} {I : I2} {J : J2} {T : TV} (hnm : nm = 8 ∨ nm = 16 ∨ nm = 24) (h0 : 0 ≤ x) (hm : x < I 1 0) (hT : EvC I T) : CT mX5_value 2 58 58 [.ref 1, .int x, .int 2, .ref nm] I J RF (RP RF (fun r I1 J1 => r = T x 2 (I nm 0) (I nm 1) (I nm 2) (I nm 3) (I nm 4) (I nm 5) ∧ J1 = J ∧ ∃ g, I1 = row2 I 4 g)) := by
  have e : i32 x.toNatClampNeg = x := Int32.ofNat_toNatClampNeg _ h0
  have h6 : x < 6 := by have := hT.2.1; grind
  have h := c_value (t := x.toNatClampNeg) (part := 2) (J := J) (by grind [tcn]) (by omega) hnm (by rw [e]; exact hm) hT
  rw [e] at h
  exact h
theorem EvC.names {I : I2} {T : TV} {g : Nat → Int32} {o c m : Nat} (hT : EvC I T) : (EvC (row2 I 8 g) T ∧ EvC (row2 I 16 g) T) ∧ EvC (row2 I 24 g) T := by
  refine ⟨⟨?_, ?_⟩, ?_⟩ <;> exact hT
theorem Sq.two {o : Nat} {I : I2} {g g' : Nat → Int32} : Sq o I (row2 (row2 I (o + 1) g) 4 g') := Sq.rowN.tr (fun a h _ => row2_ne h)
theorem c_kindOfR {o c : Nat} {I : I2} {J : J2} (ho : oC o) (h1 : i32 c < I o 5) (h2 : c < 8) : CT mX0_kindOf 2 58 58 [.ref o, .int (i32 c)] I J RF (RI RF (I (o + 2) c) I J) := by
  have h := c_kindOf (x := i32 c) (I := I) (J := J) ho
  rw [if_pos ⟨by grind [i32_ti], h1, by grind [i32_ti]⟩, tn_of (by omega)] at h
  exact h
theorem c_numberOfR {o c : Nat} {I : I2} {J : J2} (ho : oC o) (h1 : i32 c < I o 5) (h2 : c < 8) : CT mX0_numberOf 2 58 58 [.ref o, .int (i32 c)] I J RF (RI RF (I (o + 3) c) I J) := by
  have h := c_numberOf (x := i32 c) (I := I) (J := J) ho
  rw [if_pos ⟨by grind [i32_ti], h1, by grind [i32_ti]⟩, tn_of (by omega)] at h
  exact h
theorem c_bribeOfR {o c : Nat} {I : I2} {J : J2} (ho : oC o) (h1 : i32 c < I o 5) (h2 : c < 8) : CT mX0_bribeOf 2 58 58 [.ref o, .int (i32 c)] I J RF (RI RF (I (o + 4) c) I J) := by
  have h := c_bribeOf (x := i32 c) (I := I) (J := J) ho
  rw [if_pos ⟨by grind [i32_ti], h1, by grind [i32_ti]⟩, tn_of (by omega)] at h
  exact h
theorem c_takesOfR {o c : Nat} {I : I2} {J : J2} (ho : oC o) (h1 : i32 c < I o 9) (h2 : c < 6) : CT mX0_takesOf 2 58 58 [.ref o, .int (i32 c)] I J RF (RI RF (I (o + 5) c) I J) := by
  have h := c_takesOf (x := i32 c) (I := I) (J := J) ho
  rw [if_pos ⟨by grind [i32_ti], h1, by grind [i32_ti]⟩, tn_of (by omega)] at h
  exact h
theorem c_soFarOfR {o c : Nat} {I : I2} {J : J2} (ho : oC o) (h1 : i32 c < I o 9) (h2 : c < 6) : CT mX0_soFarOf 2 58 58 [.ref o, .int (i32 c)] I J RF (RI RF (I (o + 6) c) I J) := by
  have h := c_soFarOf (x := i32 c) (I := I) (J := J) ho
  rw [if_pos ⟨by grind [i32_ti], h1, by grind [i32_ti]⟩, tn_of (by omega)] at h
  exact h
theorem c_doneAtR {o c : Nat} {I : I2} {J : J2} (ho : oC o) (h1 : i32 c < I o 9) (h2 : c < 6) : CT mX0_doneAt 2 58 58 [.ref o, .int (i32 c)] I J RF (RI RF (I (o + 7) c) I J) := by
  have h := c_doneAt (x := i32 c) (I := I) (J := J) ho
  rw [if_pos ⟨by grind [i32_ti], h1, by grind [i32_ti]⟩, tn_of (by omega)] at h
  exact h
theorem sKRd_or (k yes num bri sit : Int32) : sKRd k yes num bri sit = 0 ∨ sKRd k yes num bri sit = 1 := by grind [sKRd, b2i]
theorem c_isRead {o c m : Nat} {I : I2} {J : J2} {T : TV} (hC : Cok I o T) (hc : c < nC (cOf I o)) (hm : m < 256) : CT mX0_isRead 3 58 58 [.ref o, .int (i32 c), .int (i32 m)] I J RF (RP RF (fun r I1 J1 => r = sRd T (cOf I o) c (cnt m c) ∧ J1 = J ∧ Sq o I I1)) := by
  have ho := hC.1
  obtain ⟨-, hT, hr0, hr1, hn0, hn8, hi0, hi6⟩ := hC
  obtain ⟨hc8, hcn, hc0, hcx, hct⟩ := nC_lt hn0 hn8 hc
  rcases ho with rfl | rfl | rfl
  · refine CT_of okX0_isRead (Nat.le_of_ble_eq_true rfl) ?_
    show V _ _ _ _ _ _ [(0, _), (1, _), (2, _)] _ _ _ _ _
    refine V_go 3 rfl ?_
    refine cVV (mt' := mX0_lookAt) rfl kX0_81 fX0_lookAt rfl rfl rfl (Nat.le_of_ble_eq_true rfl) (Nat.le_of_ble_eq_true rfl) (Nat.le_of_ble_eq_true rfl) (Nat.le_of_ble_eq_true rfl) (Nat.le_refl _) (c_lookAt (o := 7) (c := c) (m := m) (by unfold oC; decide) hn0 hn8 hc hm) ?_
    refine V_go 7 rfl ?_
    refine cVP (mt' := mX5_value) rfl kX0_84 fX5_value rfl rfl rfl (Nat.le_of_ble_eq_true rfl) (Nat.le_of_ble_eq_true rfl) (Nat.le_of_ble_eq_true rfl) (Nat.le_of_ble_eq_true rfl) (Nat.le_refl _) (c_value_0 (by decide) hr0 hr1 (T := T) hT) ?_
    intro r2 Ir2 Jr2 h2
    obtain ⟨hv, rfl, g, rfl⟩ := h2
    simp only [row2_rd, reduceIte, Nat.reduceEqDiff, Nat.reduceAdd, lookG] at hv
    refine V_if_eq rfl (fun h3 => ?_) (fun h3 => ?_)
    · skip
      refine V_go 4 rfl ?_
      refine cVI (mt' := mX0_kindOf) rfl kX0_88 fX0_kindOf rfl rfl rfl (Nat.le_of_ble_eq_true rfl) (Nat.le_of_ble_eq_true rfl) (Nat.le_of_ble_eq_true rfl) (Nat.le_of_ble_eq_true rfl) (Nat.le_refl _) (c_kindOfR (by unfold oC; decide) hcn hc8) ?_
      refine V_go 3 rfl ?_
      refine cVI (mt' := mX0_numberOf) rfl kX0_91 fX0_numberOf rfl rfl rfl (Nat.le_of_ble_eq_true rfl) (Nat.le_of_ble_eq_true rfl) (Nat.le_of_ble_eq_true rfl) (Nat.le_of_ble_eq_true rfl) (Nat.le_refl _) (c_numberOfR (by unfold oC; decide) hcn hc8) ?_
      refine V_go 2 rfl ?_
      refine cVI (mt' := mX0_bribeOf) rfl kX0_94 fX0_bribeOf rfl rfl rfl (Nat.le_of_ble_eq_true rfl) (Nat.le_of_ble_eq_true rfl) (Nat.le_of_ble_eq_true rfl) (Nat.le_of_ble_eq_true rfl) (Nat.le_refl _) (c_bribeOfR (by unfold oC; decide) hcn hc8) ?_
      refine V_go 2 rfl ?_
      refine cSI (mt' := mX1_isRead) rfl kX0_97 fX1_isRead rfl (Nat.le_of_ble_eq_true rfl) (Nat.le_of_ble_eq_true rfl) (Nat.le_refl _) (c_kRead (by first | exact Or.inl rfl | exact Or.inr rfl)) ?_
      refine V_zret rfl rfl rfl (by first | exact Or.inl rfl | exact Or.inr rfl | exact sKRd_or _ _ _ _ _) ?_
      refine RP.mk ⟨?_, rfl, Sq.two⟩
      simp only [row2_rd, reduceIte, Nat.reduceEqDiff, Nat.reduceAdd]
      simp only [sRd, askT, cOf, Nat.reduceAdd]
      rw [← hv]
      first
        | rw [b2i_1 (by grind)]
        | rw [b2i_0 (by grind)]
    · skip
      refine V_go 5 rfl ?_
      refine cVI (mt' := mX0_kindOf) rfl kX0_88 fX0_kindOf rfl rfl rfl (Nat.le_of_ble_eq_true rfl) (Nat.le_of_ble_eq_true rfl) (Nat.le_of_ble_eq_true rfl) (Nat.le_of_ble_eq_true rfl) (Nat.le_refl _) (c_kindOfR (by unfold oC; decide) hcn hc8) ?_
      refine V_go 3 rfl ?_
      refine cVI (mt' := mX0_numberOf) rfl kX0_91 fX0_numberOf rfl rfl rfl (Nat.le_of_ble_eq_true rfl) (Nat.le_of_ble_eq_true rfl) (Nat.le_of_ble_eq_true rfl) (Nat.le_of_ble_eq_true rfl) (Nat.le_refl _) (c_numberOfR (by unfold oC; decide) hcn hc8) ?_
      refine V_go 2 rfl ?_
      refine cVI (mt' := mX0_bribeOf) rfl kX0_94 fX0_bribeOf rfl rfl rfl (Nat.le_of_ble_eq_true rfl) (Nat.le_of_ble_eq_true rfl) (Nat.le_of_ble_eq_true rfl) (Nat.le_of_ble_eq_true rfl) (Nat.le_refl _) (c_bribeOfR (by unfold oC; decide) hcn hc8) ?_
      refine V_go 2 rfl ?_
      refine cSI (mt' := mX1_isRead) rfl kX0_97 fX1_isRead rfl (Nat.le_of_ble_eq_true rfl) (Nat.le_of_ble_eq_true rfl) (Nat.le_refl _) (c_kRead (by first | exact Or.inl rfl | exact Or.inr rfl)) ?_
      refine V_zret rfl rfl rfl (by first | exact Or.inl rfl | exact Or.inr rfl | exact sKRd_or _ _ _ _ _) ?_
      refine RP.mk ⟨?_, rfl, Sq.two⟩
      simp only [row2_rd, reduceIte, Nat.reduceEqDiff, Nat.reduceAdd]
      simp only [sRd, askT, cOf, Nat.reduceAdd]
      rw [← hv]
      first
        | rw [b2i_1 (by grind)]
        | rw [b2i_0 (by grind)]
  · refine CT_of okX0_isRead (Nat.le_of_ble_eq_true rfl) ?_
    show V _ _ _ _ _ _ [(0, _), (1, _), (2, _)] _ _ _ _ _
    refine V_go 3 rfl ?_
    refine cVV (mt' := mX0_lookAt) rfl kX0_81 fX0_lookAt rfl rfl rfl (Nat.le_of_ble_eq_true rfl) (Nat.le_of_ble_eq_true rfl) (Nat.le_of_ble_eq_true rfl) (Nat.le_of_ble_eq_true rfl) (Nat.le_refl _) (c_lookAt (o := 15) (c := c) (m := m) (by unfold oC; decide) hn0 hn8 hc hm) ?_
    refine V_go 7 rfl ?_
    refine cVP (mt' := mX5_value) rfl kX0_84 fX5_value rfl rfl rfl (Nat.le_of_ble_eq_true rfl) (Nat.le_of_ble_eq_true rfl) (Nat.le_of_ble_eq_true rfl) (Nat.le_of_ble_eq_true rfl) (Nat.le_refl _) (c_value_0 (by decide) hr0 hr1 (T := T) hT) ?_
    intro r2 Ir2 Jr2 h2
    obtain ⟨hv, rfl, g, rfl⟩ := h2
    simp only [row2_rd, reduceIte, Nat.reduceEqDiff, Nat.reduceAdd, lookG] at hv
    refine V_if_eq rfl (fun h3 => ?_) (fun h3 => ?_)
    · skip
      refine V_go 4 rfl ?_
      refine cVI (mt' := mX0_kindOf) rfl kX0_88 fX0_kindOf rfl rfl rfl (Nat.le_of_ble_eq_true rfl) (Nat.le_of_ble_eq_true rfl) (Nat.le_of_ble_eq_true rfl) (Nat.le_of_ble_eq_true rfl) (Nat.le_refl _) (c_kindOfR (by unfold oC; decide) hcn hc8) ?_
      refine V_go 3 rfl ?_
      refine cVI (mt' := mX0_numberOf) rfl kX0_91 fX0_numberOf rfl rfl rfl (Nat.le_of_ble_eq_true rfl) (Nat.le_of_ble_eq_true rfl) (Nat.le_of_ble_eq_true rfl) (Nat.le_of_ble_eq_true rfl) (Nat.le_refl _) (c_numberOfR (by unfold oC; decide) hcn hc8) ?_
      refine V_go 2 rfl ?_
      refine cVI (mt' := mX0_bribeOf) rfl kX0_94 fX0_bribeOf rfl rfl rfl (Nat.le_of_ble_eq_true rfl) (Nat.le_of_ble_eq_true rfl) (Nat.le_of_ble_eq_true rfl) (Nat.le_of_ble_eq_true rfl) (Nat.le_refl _) (c_bribeOfR (by unfold oC; decide) hcn hc8) ?_
      refine V_go 2 rfl ?_
      refine cSI (mt' := mX1_isRead) rfl kX0_97 fX1_isRead rfl (Nat.le_of_ble_eq_true rfl) (Nat.le_of_ble_eq_true rfl) (Nat.le_refl _) (c_kRead (by first | exact Or.inl rfl | exact Or.inr rfl)) ?_
      refine V_zret rfl rfl rfl (by first | exact Or.inl rfl | exact Or.inr rfl | exact sKRd_or _ _ _ _ _) ?_
      refine RP.mk ⟨?_, rfl, Sq.two⟩
      simp only [row2_rd, reduceIte, Nat.reduceEqDiff, Nat.reduceAdd]
      simp only [sRd, askT, cOf, Nat.reduceAdd]
      rw [← hv]
      first
        | rw [b2i_1 (by grind)]
        | rw [b2i_0 (by grind)]
    · skip
      refine V_go 5 rfl ?_
      refine cVI (mt' := mX0_kindOf) rfl kX0_88 fX0_kindOf rfl rfl rfl (Nat.le_of_ble_eq_true rfl) (Nat.le_of_ble_eq_true rfl) (Nat.le_of_ble_eq_true rfl) (Nat.le_of_ble_eq_true rfl) (Nat.le_refl _) (c_kindOfR (by unfold oC; decide) hcn hc8) ?_
      refine V_go 3 rfl ?_
      refine cVI (mt' := mX0_numberOf) rfl kX0_91 fX0_numberOf rfl rfl rfl (Nat.le_of_ble_eq_true rfl) (Nat.le_of_ble_eq_true rfl) (Nat.le_of_ble_eq_true rfl) (Nat.le_of_ble_eq_true rfl) (Nat.le_refl _) (c_numberOfR (by unfold oC; decide) hcn hc8) ?_
      refine V_go 2 rfl ?_
      refine cVI (mt' := mX0_bribeOf) rfl kX0_94 fX0_bribeOf rfl rfl rfl (Nat.le_of_ble_eq_true rfl) (Nat.le_of_ble_eq_true rfl) (Nat.le_of_ble_eq_true rfl) (Nat.le_of_ble_eq_true rfl) (Nat.le_refl _) (c_bribeOfR (by unfold oC; decide) hcn hc8) ?_
      refine V_go 2 rfl ?_
      refine cSI (mt' := mX1_isRead) rfl kX0_97 fX1_isRead rfl (Nat.le_of_ble_eq_true rfl) (Nat.le_of_ble_eq_true rfl) (Nat.le_refl _) (c_kRead (by first | exact Or.inl rfl | exact Or.inr rfl)) ?_
      refine V_zret rfl rfl rfl (by first | exact Or.inl rfl | exact Or.inr rfl | exact sKRd_or _ _ _ _ _) ?_
      refine RP.mk ⟨?_, rfl, Sq.two⟩
      simp only [row2_rd, reduceIte, Nat.reduceEqDiff, Nat.reduceAdd]
      simp only [sRd, askT, cOf, Nat.reduceAdd]
      rw [← hv]
      first
        | rw [b2i_1 (by grind)]
        | rw [b2i_0 (by grind)]
  · refine CT_of okX0_isRead (Nat.le_of_ble_eq_true rfl) ?_
    show V _ _ _ _ _ _ [(0, _), (1, _), (2, _)] _ _ _ _ _
    refine V_go 3 rfl ?_
    refine cVV (mt' := mX0_lookAt) rfl kX0_81 fX0_lookAt rfl rfl rfl (Nat.le_of_ble_eq_true rfl) (Nat.le_of_ble_eq_true rfl) (Nat.le_of_ble_eq_true rfl) (Nat.le_of_ble_eq_true rfl) (Nat.le_refl _) (c_lookAt (o := 23) (c := c) (m := m) (by unfold oC; decide) hn0 hn8 hc hm) ?_
    refine V_go 7 rfl ?_
    refine cVP (mt' := mX5_value) rfl kX0_84 fX5_value rfl rfl rfl (Nat.le_of_ble_eq_true rfl) (Nat.le_of_ble_eq_true rfl) (Nat.le_of_ble_eq_true rfl) (Nat.le_of_ble_eq_true rfl) (Nat.le_refl _) (c_value_0 (by decide) hr0 hr1 (T := T) hT) ?_
    intro r2 Ir2 Jr2 h2
    obtain ⟨hv, rfl, g, rfl⟩ := h2
    simp only [row2_rd, reduceIte, Nat.reduceEqDiff, Nat.reduceAdd, lookG] at hv
    refine V_if_eq rfl (fun h3 => ?_) (fun h3 => ?_)
    · skip
      refine V_go 4 rfl ?_
      refine cVI (mt' := mX0_kindOf) rfl kX0_88 fX0_kindOf rfl rfl rfl (Nat.le_of_ble_eq_true rfl) (Nat.le_of_ble_eq_true rfl) (Nat.le_of_ble_eq_true rfl) (Nat.le_of_ble_eq_true rfl) (Nat.le_refl _) (c_kindOfR (by unfold oC; decide) hcn hc8) ?_
      refine V_go 3 rfl ?_
      refine cVI (mt' := mX0_numberOf) rfl kX0_91 fX0_numberOf rfl rfl rfl (Nat.le_of_ble_eq_true rfl) (Nat.le_of_ble_eq_true rfl) (Nat.le_of_ble_eq_true rfl) (Nat.le_of_ble_eq_true rfl) (Nat.le_refl _) (c_numberOfR (by unfold oC; decide) hcn hc8) ?_
      refine V_go 2 rfl ?_
      refine cVI (mt' := mX0_bribeOf) rfl kX0_94 fX0_bribeOf rfl rfl rfl (Nat.le_of_ble_eq_true rfl) (Nat.le_of_ble_eq_true rfl) (Nat.le_of_ble_eq_true rfl) (Nat.le_of_ble_eq_true rfl) (Nat.le_refl _) (c_bribeOfR (by unfold oC; decide) hcn hc8) ?_
      refine V_go 2 rfl ?_
      refine cSI (mt' := mX1_isRead) rfl kX0_97 fX1_isRead rfl (Nat.le_of_ble_eq_true rfl) (Nat.le_of_ble_eq_true rfl) (Nat.le_refl _) (c_kRead (by first | exact Or.inl rfl | exact Or.inr rfl)) ?_
      refine V_zret rfl rfl rfl (by first | exact Or.inl rfl | exact Or.inr rfl | exact sKRd_or _ _ _ _ _) ?_
      refine RP.mk ⟨?_, rfl, Sq.two⟩
      simp only [row2_rd, reduceIte, Nat.reduceEqDiff, Nat.reduceAdd]
      simp only [sRd, askT, cOf, Nat.reduceAdd]
      rw [← hv]
      first
        | rw [b2i_1 (by grind)]
        | rw [b2i_0 (by grind)]
    · skip
      refine V_go 5 rfl ?_
      refine cVI (mt' := mX0_kindOf) rfl kX0_88 fX0_kindOf rfl rfl rfl (Nat.le_of_ble_eq_true rfl) (Nat.le_of_ble_eq_true rfl) (Nat.le_of_ble_eq_true rfl) (Nat.le_of_ble_eq_true rfl) (Nat.le_refl _) (c_kindOfR (by unfold oC; decide) hcn hc8) ?_
      refine V_go 3 rfl ?_
      refine cVI (mt' := mX0_numberOf) rfl kX0_91 fX0_numberOf rfl rfl rfl (Nat.le_of_ble_eq_true rfl) (Nat.le_of_ble_eq_true rfl) (Nat.le_of_ble_eq_true rfl) (Nat.le_of_ble_eq_true rfl) (Nat.le_refl _) (c_numberOfR (by unfold oC; decide) hcn hc8) ?_
      refine V_go 2 rfl ?_
      refine cVI (mt' := mX0_bribeOf) rfl kX0_94 fX0_bribeOf rfl rfl rfl (Nat.le_of_ble_eq_true rfl) (Nat.le_of_ble_eq_true rfl) (Nat.le_of_ble_eq_true rfl) (Nat.le_of_ble_eq_true rfl) (Nat.le_refl _) (c_bribeOfR (by unfold oC; decide) hcn hc8) ?_
      refine V_go 2 rfl ?_
      refine cSI (mt' := mX1_isRead) rfl kX0_97 fX1_isRead rfl (Nat.le_of_ble_eq_true rfl) (Nat.le_of_ble_eq_true rfl) (Nat.le_refl _) (c_kRead (by first | exact Or.inl rfl | exact Or.inr rfl)) ?_
      refine V_zret rfl rfl rfl (by first | exact Or.inl rfl | exact Or.inr rfl | exact sKRd_or _ _ _ _ _) ?_
      refine RP.mk ⟨?_, rfl, Sq.two⟩
      simp only [row2_rd, reduceIte, Nat.reduceEqDiff, Nat.reduceAdd]
      simp only [sRd, askT, cOf, Nat.reduceAdd]
      rw [← hv]
      first
        | rw [b2i_1 (by grind)]
        | rw [b2i_0 (by grind)]
theorem c_silenceOf {o c m : Nat} {I : I2} {J : J2} {T : TV} (hC : Cok I o T) (hc : c < nC (cOf I o)) (hm : m < 256) : CT mX0_silenceOf 3 58 58 [.ref o, .int (i32 c), .int (i32 m)] I J RF (RP RF (fun r I1 J1 => r = sSl T (cOf I o) c (cnt m c) ∧ J1 = J ∧ Sq o I I1)) := by
  have ho := hC.1
  obtain ⟨-, hT, hr0, hr1, hn0, hn8, hi0, hi6⟩ := hC
  obtain ⟨hc8, hcn, hc0, hcx, hct⟩ := nC_lt hn0 hn8 hc
  rcases ho with rfl | rfl | rfl
  · refine CT_of okX0_silenceOf (Nat.le_of_ble_eq_true rfl) ?_
    show V _ _ _ _ _ _ [(0, _), (1, _), (2, _)] _ _ _ _ _
    refine V_go 3 rfl ?_
    refine cVV (mt' := mX0_lookAt) rfl kX0_81 fX0_lookAt rfl rfl rfl (Nat.le_of_ble_eq_true rfl) (Nat.le_of_ble_eq_true rfl) (Nat.le_of_ble_eq_true rfl) (Nat.le_of_ble_eq_true rfl) (Nat.le_refl _) (c_lookAt (o := 7) (c := c) (m := m) (by unfold oC; decide) hn0 hn8 hc hm) ?_
    refine V_go 2 rfl ?_
    refine cVI (mt' := mX0_kindOf) rfl kX0_88 fX0_kindOf rfl rfl rfl (Nat.le_of_ble_eq_true rfl) (Nat.le_of_ble_eq_true rfl) (Nat.le_of_ble_eq_true rfl) (Nat.le_of_ble_eq_true rfl) (Nat.le_refl _) (c_kindOfR (by unfold oC; decide) hcn hc8) ?_
    refine V_go 7 rfl ?_
    refine cVP (mt' := mX5_value) rfl kX0_84 fX5_value rfl rfl rfl (Nat.le_of_ble_eq_true rfl) (Nat.le_of_ble_eq_true rfl) (Nat.le_of_ble_eq_true rfl) (Nat.le_of_ble_eq_true rfl) (Nat.le_refl _) (c_value_1 (by decide) hr0 hr1 (T := T) hT) ?_
    intro r3 Ir3 Jr3 h3
    obtain ⟨hv, rfl, g, rfl⟩ := h3
    simp only [row2_rd, reduceIte, Nat.reduceEqDiff, Nat.reduceAdd, lookG] at hv
    refine V_go 2 rfl ?_
    refine cVI (mt' := mX0_numberOf) rfl kX0_91 fX0_numberOf rfl rfl rfl (Nat.le_of_ble_eq_true rfl) (Nat.le_of_ble_eq_true rfl) (Nat.le_of_ble_eq_true rfl) (Nat.le_of_ble_eq_true rfl) (Nat.le_refl _) (c_numberOfR (by unfold oC; decide) hcn hc8) ?_
    refine cSI (mt' := mX1_silence) rfl kX0_103 fX1_silence rfl (Nat.le_of_ble_eq_true rfl) (Nat.le_of_ble_eq_true rfl) (Nat.le_refl _) (c_kSil) ?_
    refine V_iret rfl rfl rfl ?_
    refine RP.mk ⟨?_, rfl, Sq.two⟩
    simp only [row2_rd, reduceIte, Nat.reduceEqDiff, Nat.reduceAdd]
    simp only [sSl, askT, cOf, Nat.reduceAdd]
    rw [← hv]
    done
  · refine CT_of okX0_silenceOf (Nat.le_of_ble_eq_true rfl) ?_
    show V _ _ _ _ _ _ [(0, _), (1, _), (2, _)] _ _ _ _ _
    refine V_go 3 rfl ?_
    refine cVV (mt' := mX0_lookAt) rfl kX0_81 fX0_lookAt rfl rfl rfl (Nat.le_of_ble_eq_true rfl) (Nat.le_of_ble_eq_true rfl) (Nat.le_of_ble_eq_true rfl) (Nat.le_of_ble_eq_true rfl) (Nat.le_refl _) (c_lookAt (o := 15) (c := c) (m := m) (by unfold oC; decide) hn0 hn8 hc hm) ?_
    refine V_go 2 rfl ?_
    refine cVI (mt' := mX0_kindOf) rfl kX0_88 fX0_kindOf rfl rfl rfl (Nat.le_of_ble_eq_true rfl) (Nat.le_of_ble_eq_true rfl) (Nat.le_of_ble_eq_true rfl) (Nat.le_of_ble_eq_true rfl) (Nat.le_refl _) (c_kindOfR (by unfold oC; decide) hcn hc8) ?_
    refine V_go 7 rfl ?_
    refine cVP (mt' := mX5_value) rfl kX0_84 fX5_value rfl rfl rfl (Nat.le_of_ble_eq_true rfl) (Nat.le_of_ble_eq_true rfl) (Nat.le_of_ble_eq_true rfl) (Nat.le_of_ble_eq_true rfl) (Nat.le_refl _) (c_value_1 (by decide) hr0 hr1 (T := T) hT) ?_
    intro r3 Ir3 Jr3 h3
    obtain ⟨hv, rfl, g, rfl⟩ := h3
    simp only [row2_rd, reduceIte, Nat.reduceEqDiff, Nat.reduceAdd, lookG] at hv
    refine V_go 2 rfl ?_
    refine cVI (mt' := mX0_numberOf) rfl kX0_91 fX0_numberOf rfl rfl rfl (Nat.le_of_ble_eq_true rfl) (Nat.le_of_ble_eq_true rfl) (Nat.le_of_ble_eq_true rfl) (Nat.le_of_ble_eq_true rfl) (Nat.le_refl _) (c_numberOfR (by unfold oC; decide) hcn hc8) ?_
    refine cSI (mt' := mX1_silence) rfl kX0_103 fX1_silence rfl (Nat.le_of_ble_eq_true rfl) (Nat.le_of_ble_eq_true rfl) (Nat.le_refl _) (c_kSil) ?_
    refine V_iret rfl rfl rfl ?_
    refine RP.mk ⟨?_, rfl, Sq.two⟩
    simp only [row2_rd, reduceIte, Nat.reduceEqDiff, Nat.reduceAdd]
    simp only [sSl, askT, cOf, Nat.reduceAdd]
    rw [← hv]
    done
  · refine CT_of okX0_silenceOf (Nat.le_of_ble_eq_true rfl) ?_
    show V _ _ _ _ _ _ [(0, _), (1, _), (2, _)] _ _ _ _ _
    refine V_go 3 rfl ?_
    refine cVV (mt' := mX0_lookAt) rfl kX0_81 fX0_lookAt rfl rfl rfl (Nat.le_of_ble_eq_true rfl) (Nat.le_of_ble_eq_true rfl) (Nat.le_of_ble_eq_true rfl) (Nat.le_of_ble_eq_true rfl) (Nat.le_refl _) (c_lookAt (o := 23) (c := c) (m := m) (by unfold oC; decide) hn0 hn8 hc hm) ?_
    refine V_go 2 rfl ?_
    refine cVI (mt' := mX0_kindOf) rfl kX0_88 fX0_kindOf rfl rfl rfl (Nat.le_of_ble_eq_true rfl) (Nat.le_of_ble_eq_true rfl) (Nat.le_of_ble_eq_true rfl) (Nat.le_of_ble_eq_true rfl) (Nat.le_refl _) (c_kindOfR (by unfold oC; decide) hcn hc8) ?_
    refine V_go 7 rfl ?_
    refine cVP (mt' := mX5_value) rfl kX0_84 fX5_value rfl rfl rfl (Nat.le_of_ble_eq_true rfl) (Nat.le_of_ble_eq_true rfl) (Nat.le_of_ble_eq_true rfl) (Nat.le_of_ble_eq_true rfl) (Nat.le_refl _) (c_value_1 (by decide) hr0 hr1 (T := T) hT) ?_
    intro r3 Ir3 Jr3 h3
    obtain ⟨hv, rfl, g, rfl⟩ := h3
    simp only [row2_rd, reduceIte, Nat.reduceEqDiff, Nat.reduceAdd, lookG] at hv
    refine V_go 2 rfl ?_
    refine cVI (mt' := mX0_numberOf) rfl kX0_91 fX0_numberOf rfl rfl rfl (Nat.le_of_ble_eq_true rfl) (Nat.le_of_ble_eq_true rfl) (Nat.le_of_ble_eq_true rfl) (Nat.le_of_ble_eq_true rfl) (Nat.le_refl _) (c_numberOfR (by unfold oC; decide) hcn hc8) ?_
    refine cSI (mt' := mX1_silence) rfl kX0_103 fX1_silence rfl (Nat.le_of_ble_eq_true rfl) (Nat.le_of_ble_eq_true rfl) (Nat.le_refl _) (c_kSil) ?_
    refine V_iret rfl rfl rfl ?_
    refine RP.mk ⟨?_, rfl, Sq.two⟩
    simp only [row2_rd, reduceIte, Nat.reduceEqDiff, Nat.reduceAdd]
    simp only [sSl, askT, cOf, Nat.reduceAdd]
    rw [← hv]
    done
theorem c_timeOf {o c m : Nat} {I : I2} {J : J2} {T : TV} (hC : Cok I o T) (hc : c < nC (cOf I o)) (hm : m < 256) : CT mX0_timeOf 3 58 58 [.ref o, .int (i32 c), .int (i32 m)] I J RF (RP RF (fun r I1 J1 => r = sTm T (cOf I o) c (cnt m c) ∧ J1 = J ∧ Sq o I I1)) := by
  have ho := hC.1
  obtain ⟨-, hT, hr0, hr1, hn0, hn8, hi0, hi6⟩ := hC
  obtain ⟨hc8, hcn, hc0, hcx, hct⟩ := nC_lt hn0 hn8 hc
  rcases ho with rfl | rfl | rfl
  · refine CT_of okX0_timeOf (Nat.le_of_ble_eq_true rfl) ?_
    show V _ _ _ _ _ _ [(0, _), (1, _), (2, _)] _ _ _ _ _
    refine V_go 3 rfl ?_
    refine cVV (mt' := mX0_lookAt) rfl kX0_81 fX0_lookAt rfl rfl rfl (Nat.le_of_ble_eq_true rfl) (Nat.le_of_ble_eq_true rfl) (Nat.le_of_ble_eq_true rfl) (Nat.le_of_ble_eq_true rfl) (Nat.le_refl _) (c_lookAt (o := 7) (c := c) (m := m) (by unfold oC; decide) hn0 hn8 hc hm) ?_
    refine V_go 2 rfl ?_
    refine cVI (mt' := mX0_kindOf) rfl kX0_88 fX0_kindOf rfl rfl rfl (Nat.le_of_ble_eq_true rfl) (Nat.le_of_ble_eq_true rfl) (Nat.le_of_ble_eq_true rfl) (Nat.le_of_ble_eq_true rfl) (Nat.le_refl _) (c_kindOfR (by unfold oC; decide) hcn hc8) ?_
    refine V_go 7 rfl ?_
    refine cVP (mt' := mX5_value) rfl kX0_84 fX5_value rfl rfl rfl (Nat.le_of_ble_eq_true rfl) (Nat.le_of_ble_eq_true rfl) (Nat.le_of_ble_eq_true rfl) (Nat.le_of_ble_eq_true rfl) (Nat.le_refl _) (c_value_2 (by decide) hr0 hr1 (T := T) hT) ?_
    intro r3 Ir3 Jr3 h3
    obtain ⟨hv, rfl, g, rfl⟩ := h3
    simp only [row2_rd, reduceIte, Nat.reduceEqDiff, Nat.reduceAdd, lookG] at hv
    refine V_go 2 rfl ?_
    refine cVI (mt' := mX0_numberOf) rfl kX0_91 fX0_numberOf rfl rfl rfl (Nat.le_of_ble_eq_true rfl) (Nat.le_of_ble_eq_true rfl) (Nat.le_of_ble_eq_true rfl) (Nat.le_of_ble_eq_true rfl) (Nat.le_refl _) (c_numberOfR (by unfold oC; decide) hcn hc8) ?_
    refine V_go 2 rfl ?_
    refine cSI (mt' := mX1_time) rfl kX0_107 fX1_time rfl (Nat.le_of_ble_eq_true rfl) (Nat.le_of_ble_eq_true rfl) (Nat.le_refl _) (c_kTim) ?_
    refine V_iret rfl rfl rfl ?_
    refine RP.mk ⟨?_, rfl, Sq.two⟩
    simp only [row2_rd, reduceIte, Nat.reduceEqDiff, Nat.reduceAdd]
    simp only [sTm, askT, cOf, Nat.reduceAdd]
    rw [← hv]
    done
  · refine CT_of okX0_timeOf (Nat.le_of_ble_eq_true rfl) ?_
    show V _ _ _ _ _ _ [(0, _), (1, _), (2, _)] _ _ _ _ _
    refine V_go 3 rfl ?_
    refine cVV (mt' := mX0_lookAt) rfl kX0_81 fX0_lookAt rfl rfl rfl (Nat.le_of_ble_eq_true rfl) (Nat.le_of_ble_eq_true rfl) (Nat.le_of_ble_eq_true rfl) (Nat.le_of_ble_eq_true rfl) (Nat.le_refl _) (c_lookAt (o := 15) (c := c) (m := m) (by unfold oC; decide) hn0 hn8 hc hm) ?_
    refine V_go 2 rfl ?_
    refine cVI (mt' := mX0_kindOf) rfl kX0_88 fX0_kindOf rfl rfl rfl (Nat.le_of_ble_eq_true rfl) (Nat.le_of_ble_eq_true rfl) (Nat.le_of_ble_eq_true rfl) (Nat.le_of_ble_eq_true rfl) (Nat.le_refl _) (c_kindOfR (by unfold oC; decide) hcn hc8) ?_
    refine V_go 7 rfl ?_
    refine cVP (mt' := mX5_value) rfl kX0_84 fX5_value rfl rfl rfl (Nat.le_of_ble_eq_true rfl) (Nat.le_of_ble_eq_true rfl) (Nat.le_of_ble_eq_true rfl) (Nat.le_of_ble_eq_true rfl) (Nat.le_refl _) (c_value_2 (by decide) hr0 hr1 (T := T) hT) ?_
    intro r3 Ir3 Jr3 h3
    obtain ⟨hv, rfl, g, rfl⟩ := h3
    simp only [row2_rd, reduceIte, Nat.reduceEqDiff, Nat.reduceAdd, lookG] at hv
    refine V_go 2 rfl ?_
    refine cVI (mt' := mX0_numberOf) rfl kX0_91 fX0_numberOf rfl rfl rfl (Nat.le_of_ble_eq_true rfl) (Nat.le_of_ble_eq_true rfl) (Nat.le_of_ble_eq_true rfl) (Nat.le_of_ble_eq_true rfl) (Nat.le_refl _) (c_numberOfR (by unfold oC; decide) hcn hc8) ?_
    refine V_go 2 rfl ?_
    refine cSI (mt' := mX1_time) rfl kX0_107 fX1_time rfl (Nat.le_of_ble_eq_true rfl) (Nat.le_of_ble_eq_true rfl) (Nat.le_refl _) (c_kTim) ?_
    refine V_iret rfl rfl rfl ?_
    refine RP.mk ⟨?_, rfl, Sq.two⟩
    simp only [row2_rd, reduceIte, Nat.reduceEqDiff, Nat.reduceAdd]
    simp only [sTm, askT, cOf, Nat.reduceAdd]
    rw [← hv]
    done
  · refine CT_of okX0_timeOf (Nat.le_of_ble_eq_true rfl) ?_
    show V _ _ _ _ _ _ [(0, _), (1, _), (2, _)] _ _ _ _ _
    refine V_go 3 rfl ?_
    refine cVV (mt' := mX0_lookAt) rfl kX0_81 fX0_lookAt rfl rfl rfl (Nat.le_of_ble_eq_true rfl) (Nat.le_of_ble_eq_true rfl) (Nat.le_of_ble_eq_true rfl) (Nat.le_of_ble_eq_true rfl) (Nat.le_refl _) (c_lookAt (o := 23) (c := c) (m := m) (by unfold oC; decide) hn0 hn8 hc hm) ?_
    refine V_go 2 rfl ?_
    refine cVI (mt' := mX0_kindOf) rfl kX0_88 fX0_kindOf rfl rfl rfl (Nat.le_of_ble_eq_true rfl) (Nat.le_of_ble_eq_true rfl) (Nat.le_of_ble_eq_true rfl) (Nat.le_of_ble_eq_true rfl) (Nat.le_refl _) (c_kindOfR (by unfold oC; decide) hcn hc8) ?_
    refine V_go 7 rfl ?_
    refine cVP (mt' := mX5_value) rfl kX0_84 fX5_value rfl rfl rfl (Nat.le_of_ble_eq_true rfl) (Nat.le_of_ble_eq_true rfl) (Nat.le_of_ble_eq_true rfl) (Nat.le_of_ble_eq_true rfl) (Nat.le_refl _) (c_value_2 (by decide) hr0 hr1 (T := T) hT) ?_
    intro r3 Ir3 Jr3 h3
    obtain ⟨hv, rfl, g, rfl⟩ := h3
    simp only [row2_rd, reduceIte, Nat.reduceEqDiff, Nat.reduceAdd, lookG] at hv
    refine V_go 2 rfl ?_
    refine cVI (mt' := mX0_numberOf) rfl kX0_91 fX0_numberOf rfl rfl rfl (Nat.le_of_ble_eq_true rfl) (Nat.le_of_ble_eq_true rfl) (Nat.le_of_ble_eq_true rfl) (Nat.le_of_ble_eq_true rfl) (Nat.le_refl _) (c_numberOfR (by unfold oC; decide) hcn hc8) ?_
    refine V_go 2 rfl ?_
    refine cSI (mt' := mX1_time) rfl kX0_107 fX1_time rfl (Nat.le_of_ble_eq_true rfl) (Nat.le_of_ble_eq_true rfl) (Nat.le_refl _) (c_kTim) ?_
    refine V_iret rfl rfl rfl ?_
    refine RP.mk ⟨?_, rfl, Sq.two⟩
    simp only [row2_rd, reduceIte, Nat.reduceEqDiff, Nat.reduceAdd]
    simp only [sTm, askT, cOf, Nat.reduceAdd]
    rw [← hv]
    done
end
section
theorem sq_o {o : Nat} {I I1 : I2} (ho : oC o) (q : Sq o I I1) : I1 o = I o := q o (by rcases ho with rfl | rfl | rfl <;> omega) (by omega)
theorem nC_i {I : I2} {o : Nat} (h0 : 0 ≤ I o 5) (h8 : I o 5 ≤ 8) : I o 5 = i32 (nC (cOf I o)) ∧ nC (cOf I o) ≤ 8 := by
  have h1 : nC (cOf I o) = (I o 5).toNatClampNeg := rfl
  have h2 := tcn (I o 5) h0
  exact ⟨by rw [h1]; exact (Int32.ofNat_toNatClampNeg _ h0).symm, by rw [h1]; grind⟩
theorem pow_lt8 {n : Nat} (h : n ≤ 8) : 2 ^ n ≤ 256 := by
  have : n = 0 ∨ n = 1 ∨ n = 2 ∨ n = 3 ∨ n = 4 ∨ n = 5 ∨ n = 6 ∨ n = 7 ∨ n = 8 := by omega
  rcases this with rfl | rfl | rfl | rfl | rfl | rfl | rfl | rfl | rfl <;> decide
theorem sLs_256 (T : TV) (C : CC) {n : Nat} (h : n ≤ 8) : sLs T C n < 256 := Nat.lt_of_lt_of_le (sLs_lt T C n) (pow_lt8 h)
/-- the loops' ends -/
theorem lp_end {x y : Int32} {i N : Nat} (hx : x = i32 i) (hy : y = i32 N) (hN : N < 100000) (h : i = N) : y ≤ x := by subst h; rw [hx, hy]; exact Int32.le_refl _
theorem lp_more {i N : Nat} (hN : N < 100000) (h : i < N) : ¬ i32 N ≤ i32 i := by grind [i32_ti]
theorem lp_stop {i N : Nat} (h : i + 0 = N) : i32 N ≤ i32 i := by rw [← h]; exact Int32.le_refl _
theorem c_listed_7 {I : I2} {J : J2} {T : TV} (hC : Cok I 7 T) : CT mX0_listed 4 58 58 [.ref 7] I J RF (RP RF (fun r I1 J1 => r = i32 (sLst T (cOf I 7)) ∧ J1 = J ∧ Sq 7 I I1)) := by
  have ho := hC.1
  obtain ⟨-, hT, hr0, hr1, hn0, hn8, hi0, hi6⟩ := id hC
  obtain ⟨e5, hN8⟩ := nC_i hn0 hn8
  refine CT_of okX0_listed (Nat.le_of_ble_eq_true rfl) ?_
  show V _ _ _ _ _ _ [(0, _)] _ _ _ _ _
  have key : ∀ n, Hid (∀ (i : Nat) (I1 : I2), i + n = nC (cOf I 7) → Sq 7 I I1 → V mX0_listed none 4 58 (RP RF (fun r I1 J1 => r = i32 (sLst T (cOf I 7)) ∧ J1 = J ∧ Sq 7 I I1)) 4 [(0, .ref 7), (1, .int (i32 (sLs T (cOf I 7) i))), (2, .int (i32 i))] [] 58 I1 J RF) := by
    intro n
    induction n with
    | zero =>
      unfold Hid
      intro i I1 hi hq
      refine V_go 3 rfl ?_
      refine V_icmp_ge rfl (fun h1 => ?_) (fun h1 => ?_)
      · skip
        refine V_go 1 rfl ?_
        refine V_iret rfl rfl rfl ?_
        refine RP.mk ⟨?_, rfl, hq⟩
        rw [show i = nC (cOf I 7) from hi]
        rfl
      · skip
        exfalso
        rw [sq_o ho hq, e5] at h1
        exact h1 (lp_stop hi)
    | succ n ih =>
      unfold Hid
      intro i I1 hi hq
      refine V_go 3 rfl ?_
      refine V_icmp_ge rfl (fun h1 => ?_) (fun h1 => ?_)
      · skip
        exfalso
        rw [sq_o ho hq, e5] at h1
        exact lp_more (by omega) (by omega) h1
      · skip
        refine V_go 3 rfl ?_
        refine cVP (mt' := mX0_isRead) rfl kX0_111 fX0_isRead rfl rfl rfl (Nat.le_of_ble_eq_true rfl) (Nat.le_of_ble_eq_true rfl) (Nat.le_of_ble_eq_true rfl) (Nat.le_of_ble_eq_true rfl) (Nat.le_refl _) (c_isRead (c := i) (m := sLs T (cOf I 7) i) (hC.sq hq) (by rw [cOf_sq ho hq]; omega) (sLs_256 T _ (by omega))) ?_
        intro r2 Ir2 Jr2 h2
        obtain ⟨hv, rfl, hq2⟩ := h2
        rw [cOf_sq ho hq] at hv
        refine V_if_eq rfl (fun h3 => ?_) (fun h3 => ?_)
        · skip
          refine V_go 2 rfl ?_
          refine V.st (I' := Ir2) (L' := [(0, .ref 7), (1, .int (i32 (sLs T (cOf I 7) (i + 1)))), (2, .int (i32 (i + 1)))]) (ih.un (i + 1) Ir2 (by omega) (hq.tr hq2)) rfl ?_
          rw [i32_s]
          rw [show sLs T (cOf I 7) (i + 1) = sLs T (cOf I 7) i from by rw [sLs, if_pos (hv ▸ h3)]]
          simp
        · skip
          refine V_go 8 rfl ?_
          refine V.st (I' := Ir2) (L' := [(0, .ref 7), (1, .int (i32 (sLs T (cOf I 7) (i + 1)))), (2, .int (i32 (i + 1)))]) (ih.un (i + 1) Ir2 (by omega) (hq.tr hq2)) rfl ?_
          rw [i32_s]
          rw [show sLs T (cOf I 7) (i + 1) = sLs T (cOf I 7) i + 2 ^ i from by rw [sLs, if_neg (hv ▸ h3)], orbit_ok i (by omega) _ (sLs_lt T _ i)]
          simp
  refine V_go 4 rfl ?_
  exact (key _).un 0 I (Nat.zero_add _) Sq.rf
theorem c_listed_15 {I : I2} {J : J2} {T : TV} (hC : Cok I 15 T) : CT mX0_listed 4 58 58 [.ref 15] I J RF (RP RF (fun r I1 J1 => r = i32 (sLst T (cOf I 15)) ∧ J1 = J ∧ Sq 15 I I1)) := by
  have ho := hC.1
  obtain ⟨-, hT, hr0, hr1, hn0, hn8, hi0, hi6⟩ := id hC
  obtain ⟨e5, hN8⟩ := nC_i hn0 hn8
  refine CT_of okX0_listed (Nat.le_of_ble_eq_true rfl) ?_
  show V _ _ _ _ _ _ [(0, _)] _ _ _ _ _
  have key : ∀ n, Hid (∀ (i : Nat) (I1 : I2), i + n = nC (cOf I 15) → Sq 15 I I1 → V mX0_listed none 4 58 (RP RF (fun r I1 J1 => r = i32 (sLst T (cOf I 15)) ∧ J1 = J ∧ Sq 15 I I1)) 4 [(0, .ref 15), (1, .int (i32 (sLs T (cOf I 15) i))), (2, .int (i32 i))] [] 58 I1 J RF) := by
    intro n
    induction n with
    | zero =>
      unfold Hid
      intro i I1 hi hq
      refine V_go 3 rfl ?_
      refine V_icmp_ge rfl (fun h1 => ?_) (fun h1 => ?_)
      · skip
        refine V_go 1 rfl ?_
        refine V_iret rfl rfl rfl ?_
        refine RP.mk ⟨?_, rfl, hq⟩
        rw [show i = nC (cOf I 15) from hi]
        rfl
      · skip
        exfalso
        rw [sq_o ho hq, e5] at h1
        exact h1 (lp_stop hi)
    | succ n ih =>
      unfold Hid
      intro i I1 hi hq
      refine V_go 3 rfl ?_
      refine V_icmp_ge rfl (fun h1 => ?_) (fun h1 => ?_)
      · skip
        exfalso
        rw [sq_o ho hq, e5] at h1
        exact lp_more (by omega) (by omega) h1
      · skip
        refine V_go 3 rfl ?_
        refine cVP (mt' := mX0_isRead) rfl kX0_111 fX0_isRead rfl rfl rfl (Nat.le_of_ble_eq_true rfl) (Nat.le_of_ble_eq_true rfl) (Nat.le_of_ble_eq_true rfl) (Nat.le_of_ble_eq_true rfl) (Nat.le_refl _) (c_isRead (c := i) (m := sLs T (cOf I 15) i) (hC.sq hq) (by rw [cOf_sq ho hq]; omega) (sLs_256 T _ (by omega))) ?_
        intro r2 Ir2 Jr2 h2
        obtain ⟨hv, rfl, hq2⟩ := h2
        rw [cOf_sq ho hq] at hv
        refine V_if_eq rfl (fun h3 => ?_) (fun h3 => ?_)
        · skip
          refine V_go 2 rfl ?_
          refine V.st (I' := Ir2) (L' := [(0, .ref 15), (1, .int (i32 (sLs T (cOf I 15) (i + 1)))), (2, .int (i32 (i + 1)))]) (ih.un (i + 1) Ir2 (by omega) (hq.tr hq2)) rfl ?_
          rw [i32_s]
          rw [show sLs T (cOf I 15) (i + 1) = sLs T (cOf I 15) i from by rw [sLs, if_pos (hv ▸ h3)]]
          simp
        · skip
          refine V_go 8 rfl ?_
          refine V.st (I' := Ir2) (L' := [(0, .ref 15), (1, .int (i32 (sLs T (cOf I 15) (i + 1)))), (2, .int (i32 (i + 1)))]) (ih.un (i + 1) Ir2 (by omega) (hq.tr hq2)) rfl ?_
          rw [i32_s]
          rw [show sLs T (cOf I 15) (i + 1) = sLs T (cOf I 15) i + 2 ^ i from by rw [sLs, if_neg (hv ▸ h3)], orbit_ok i (by omega) _ (sLs_lt T _ i)]
          simp
  refine V_go 4 rfl ?_
  exact (key _).un 0 I (Nat.zero_add _) Sq.rf
theorem c_listed_23 {I : I2} {J : J2} {T : TV} (hC : Cok I 23 T) : CT mX0_listed 4 58 58 [.ref 23] I J RF (RP RF (fun r I1 J1 => r = i32 (sLst T (cOf I 23)) ∧ J1 = J ∧ Sq 23 I I1)) := by
  have ho := hC.1
  obtain ⟨-, hT, hr0, hr1, hn0, hn8, hi0, hi6⟩ := id hC
  obtain ⟨e5, hN8⟩ := nC_i hn0 hn8
  refine CT_of okX0_listed (Nat.le_of_ble_eq_true rfl) ?_
  show V _ _ _ _ _ _ [(0, _)] _ _ _ _ _
  have key : ∀ n, Hid (∀ (i : Nat) (I1 : I2), i + n = nC (cOf I 23) → Sq 23 I I1 → V mX0_listed none 4 58 (RP RF (fun r I1 J1 => r = i32 (sLst T (cOf I 23)) ∧ J1 = J ∧ Sq 23 I I1)) 4 [(0, .ref 23), (1, .int (i32 (sLs T (cOf I 23) i))), (2, .int (i32 i))] [] 58 I1 J RF) := by
    intro n
    induction n with
    | zero =>
      unfold Hid
      intro i I1 hi hq
      refine V_go 3 rfl ?_
      refine V_icmp_ge rfl (fun h1 => ?_) (fun h1 => ?_)
      · skip
        refine V_go 1 rfl ?_
        refine V_iret rfl rfl rfl ?_
        refine RP.mk ⟨?_, rfl, hq⟩
        rw [show i = nC (cOf I 23) from hi]
        rfl
      · skip
        exfalso
        rw [sq_o ho hq, e5] at h1
        exact h1 (lp_stop hi)
    | succ n ih =>
      unfold Hid
      intro i I1 hi hq
      refine V_go 3 rfl ?_
      refine V_icmp_ge rfl (fun h1 => ?_) (fun h1 => ?_)
      · skip
        exfalso
        rw [sq_o ho hq, e5] at h1
        exact lp_more (by omega) (by omega) h1
      · skip
        refine V_go 3 rfl ?_
        refine cVP (mt' := mX0_isRead) rfl kX0_111 fX0_isRead rfl rfl rfl (Nat.le_of_ble_eq_true rfl) (Nat.le_of_ble_eq_true rfl) (Nat.le_of_ble_eq_true rfl) (Nat.le_of_ble_eq_true rfl) (Nat.le_refl _) (c_isRead (c := i) (m := sLs T (cOf I 23) i) (hC.sq hq) (by rw [cOf_sq ho hq]; omega) (sLs_256 T _ (by omega))) ?_
        intro r2 Ir2 Jr2 h2
        obtain ⟨hv, rfl, hq2⟩ := h2
        rw [cOf_sq ho hq] at hv
        refine V_if_eq rfl (fun h3 => ?_) (fun h3 => ?_)
        · skip
          refine V_go 2 rfl ?_
          refine V.st (I' := Ir2) (L' := [(0, .ref 23), (1, .int (i32 (sLs T (cOf I 23) (i + 1)))), (2, .int (i32 (i + 1)))]) (ih.un (i + 1) Ir2 (by omega) (hq.tr hq2)) rfl ?_
          rw [i32_s]
          rw [show sLs T (cOf I 23) (i + 1) = sLs T (cOf I 23) i from by rw [sLs, if_pos (hv ▸ h3)]]
          simp
        · skip
          refine V_go 8 rfl ?_
          refine V.st (I' := Ir2) (L' := [(0, .ref 23), (1, .int (i32 (sLs T (cOf I 23) (i + 1)))), (2, .int (i32 (i + 1)))]) (ih.un (i + 1) Ir2 (by omega) (hq.tr hq2)) rfl ?_
          rw [i32_s]
          rw [show sLs T (cOf I 23) (i + 1) = sLs T (cOf I 23) i + 2 ^ i from by rw [sLs, if_neg (hv ▸ h3)], orbit_ok i (by omega) _ (sLs_lt T _ i)]
          simp
  refine V_go 4 rfl ?_
  exact (key _).un 0 I (Nat.zero_add _) Sq.rf
theorem c_listed {o : Nat} {I : I2} {J : J2} {T : TV} (hC : Cok I o T) : CT mX0_listed 4 58 58 [.ref o] I J RF (RP RF (fun r I1 J1 => r = i32 (sLst T (cOf I o)) ∧ J1 = J ∧ Sq o I I1)) := by
  rcases hC.1 with rfl | rfl | rfl
  · exact c_listed_7 hC
  · exact c_listed_15 hC
  · exact c_listed_23 hC
end
section
theorem c_spentOn_7 {x : Int32} {p : Nat → Bool} {m : Nat} {I : I2} {J : J2} {T : TV} (hC : Cok I 7 T) (hp : ∀ i, i < 8 → (x >>> (i32 i &&& 31)) &&& 1 = if p i then 1 else 0) (hm : m < 256) : CT mX0_spentOn 5 58 58 [.ref 7, .int x, .int (i32 m)] I J RF (RP RF (fun r I1 J1 => r = sGn T (cOf I 7) p m (nC (cOf I 7)) ∧ J1 = J ∧ Sq 7 I I1)) := by
  have ho := hC.1
  obtain ⟨-, hT, hr0, hr1, hn0, hn8, hi0, hi6⟩ := id hC
  obtain ⟨e5, hN8⟩ := nC_i hn0 hn8
  refine CT_of okX0_spentOn (Nat.le_of_ble_eq_true rfl) ?_
  show V _ _ _ _ _ _ [(0, _), (1, _), (2, _)] _ _ _ _ _
  have key : ∀ n, Hid (∀ (i : Nat) (I1 : I2), i + n = nC (cOf I 7) → Sq 7 I I1 → V mX0_spentOn none 5 58 (RP RF (fun r I1 J1 => r = sGn T (cOf I 7) p m (nC (cOf I 7)) ∧ J1 = J ∧ Sq 7 I I1)) 5 [(0, .ref 7), (1, .int x), (2, .int (i32 m)), (3, .int (sGn T (cOf I 7) p m i)), (4, .int (i32 i))] [] 58 I1 J RF) := by
    intro n
    induction n with
    | zero =>
      unfold Hid
      intro i I1 hi hq
      refine V_go 3 rfl ?_
      refine V_icmp_ge rfl (fun h1 => ?_) (fun h1 => ?_)
      · skip
        refine V_go 1 rfl ?_
        refine V_iret rfl rfl rfl ?_
        refine RP.mk ⟨?_, rfl, hq⟩
        rw [show i = nC (cOf I 7) from hi]
      · skip
        exfalso
        rw [sq_o ho hq, e5] at h1
        exact h1 (lp_stop hi)
    | succ n ih =>
      unfold Hid
      intro i I1 hi hq
      refine V_go 3 rfl ?_
      refine V_icmp_ge rfl (fun h1 => ?_) (fun h1 => ?_)
      · skip
        exfalso
        rw [sq_o ho hq, e5] at h1
        exact lp_more (by omega) (by omega) h1
      · skip
        refine V_go 6 rfl ?_
        refine V_icmp_ne rfl (fun h2 => ?_) (fun h2 => ?_)
        · skip
          refine V_go 2 rfl ?_
          refine V.st (I' := I1) (L' := [(0, .ref 7), (1, .int x), (2, .int (i32 m)), (3, .int (sGn T (cOf I 7) p m (i + 1))), (4, .int (i32 (i + 1)))]) (ih.un (i + 1) I1 (by omega) hq) rfl ?_
          rw [i32_s, show sGn T (cOf I 7) p m (i + 1) = sGn T (cOf I 7) p m i from by rw [sGn]; rw [if_neg (by have := hp i (by omega); grind)]; simp]
          simp
        · skip
          refine V_go 7 rfl ?_
          refine V_icmp_ne rfl (fun h3 => ?_) (fun h3 => ?_)
          · skip
            refine V_go 3 rfl ?_
            refine cVP (mt' := mX0_silenceOf) rfl kX0_118 fX0_silenceOf rfl rfl rfl (Nat.le_of_ble_eq_true rfl) (Nat.le_of_ble_eq_true rfl) (Nat.le_of_ble_eq_true rfl) (Nat.le_of_ble_eq_true rfl) (Nat.le_refl _) (c_silenceOf (c := i) (m := m) (hC.sq hq) (by rw [cOf_sq ho hq]; omega) hm) ?_
            intro rq IQ Jq h4
            obtain ⟨hv, rfl, hq2⟩ := h4
            rw [cOf_sq ho hq] at hv
            refine V_go 4 rfl ?_
            refine V.st (I' := IQ) (L' := [(0, .ref 7), (1, .int x), (2, .int (i32 m)), (3, .int (sGn T (cOf I 7) p m (i + 1))), (4, .int (i32 (i + 1)))]) (ih.un (i + 1) IQ (by omega) (hq.tr hq2)) rfl ?_
            rw [i32_s, show sGn T (cOf I 7) p m (i + 1) = sGn T (cOf I 7) p m i + rq from by rw [sGn]; rw [if_pos (by have := hp i (by omega); grind), if_neg (by have := bit_ok m hm i (by omega); grind), hv]]
            simp
          · skip
            refine V_go 3 rfl ?_
            refine cVP (mt' := mX0_timeOf) rfl kX0_114 fX0_timeOf rfl rfl rfl (Nat.le_of_ble_eq_true rfl) (Nat.le_of_ble_eq_true rfl) (Nat.le_of_ble_eq_true rfl) (Nat.le_of_ble_eq_true rfl) (Nat.le_refl _) (c_timeOf (c := i) (m := m) (hC.sq hq) (by rw [cOf_sq ho hq]; omega) hm) ?_
            intro rq IQ Jq h5
            obtain ⟨hv, rfl, hq2⟩ := h5
            rw [cOf_sq ho hq] at hv
            refine V_go 5 rfl ?_
            refine V.st (I' := IQ) (L' := [(0, .ref 7), (1, .int x), (2, .int (i32 m)), (3, .int (sGn T (cOf I 7) p m (i + 1))), (4, .int (i32 (i + 1)))]) (ih.un (i + 1) IQ (by omega) (hq.tr hq2)) rfl ?_
            rw [i32_s, show sGn T (cOf I 7) p m (i + 1) = sGn T (cOf I 7) p m i + rq from by rw [sGn]; rw [if_pos (by have := hp i (by omega); grind), if_pos (by have := bit_ok m hm i (by omega); grind), hv]]
            simp
  refine V_go 4 rfl ?_
  exact (key _).un 0 I (Nat.zero_add _) Sq.rf
theorem c_spentOn_15 {x : Int32} {p : Nat → Bool} {m : Nat} {I : I2} {J : J2} {T : TV} (hC : Cok I 15 T) (hp : ∀ i, i < 8 → (x >>> (i32 i &&& 31)) &&& 1 = if p i then 1 else 0) (hm : m < 256) : CT mX0_spentOn 5 58 58 [.ref 15, .int x, .int (i32 m)] I J RF (RP RF (fun r I1 J1 => r = sGn T (cOf I 15) p m (nC (cOf I 15)) ∧ J1 = J ∧ Sq 15 I I1)) := by
  have ho := hC.1
  obtain ⟨-, hT, hr0, hr1, hn0, hn8, hi0, hi6⟩ := id hC
  obtain ⟨e5, hN8⟩ := nC_i hn0 hn8
  refine CT_of okX0_spentOn (Nat.le_of_ble_eq_true rfl) ?_
  show V _ _ _ _ _ _ [(0, _), (1, _), (2, _)] _ _ _ _ _
  have key : ∀ n, Hid (∀ (i : Nat) (I1 : I2), i + n = nC (cOf I 15) → Sq 15 I I1 → V mX0_spentOn none 5 58 (RP RF (fun r I1 J1 => r = sGn T (cOf I 15) p m (nC (cOf I 15)) ∧ J1 = J ∧ Sq 15 I I1)) 5 [(0, .ref 15), (1, .int x), (2, .int (i32 m)), (3, .int (sGn T (cOf I 15) p m i)), (4, .int (i32 i))] [] 58 I1 J RF) := by
    intro n
    induction n with
    | zero =>
      unfold Hid
      intro i I1 hi hq
      refine V_go 3 rfl ?_
      refine V_icmp_ge rfl (fun h1 => ?_) (fun h1 => ?_)
      · skip
        refine V_go 1 rfl ?_
        refine V_iret rfl rfl rfl ?_
        refine RP.mk ⟨?_, rfl, hq⟩
        rw [show i = nC (cOf I 15) from hi]
      · skip
        exfalso
        rw [sq_o ho hq, e5] at h1
        exact h1 (lp_stop hi)
    | succ n ih =>
      unfold Hid
      intro i I1 hi hq
      refine V_go 3 rfl ?_
      refine V_icmp_ge rfl (fun h1 => ?_) (fun h1 => ?_)
      · skip
        exfalso
        rw [sq_o ho hq, e5] at h1
        exact lp_more (by omega) (by omega) h1
      · skip
        refine V_go 6 rfl ?_
        refine V_icmp_ne rfl (fun h2 => ?_) (fun h2 => ?_)
        · skip
          refine V_go 2 rfl ?_
          refine V.st (I' := I1) (L' := [(0, .ref 15), (1, .int x), (2, .int (i32 m)), (3, .int (sGn T (cOf I 15) p m (i + 1))), (4, .int (i32 (i + 1)))]) (ih.un (i + 1) I1 (by omega) hq) rfl ?_
          rw [i32_s, show sGn T (cOf I 15) p m (i + 1) = sGn T (cOf I 15) p m i from by rw [sGn]; rw [if_neg (by have := hp i (by omega); grind)]; simp]
          simp
        · skip
          refine V_go 7 rfl ?_
          refine V_icmp_ne rfl (fun h3 => ?_) (fun h3 => ?_)
          · skip
            refine V_go 3 rfl ?_
            refine cVP (mt' := mX0_silenceOf) rfl kX0_118 fX0_silenceOf rfl rfl rfl (Nat.le_of_ble_eq_true rfl) (Nat.le_of_ble_eq_true rfl) (Nat.le_of_ble_eq_true rfl) (Nat.le_of_ble_eq_true rfl) (Nat.le_refl _) (c_silenceOf (c := i) (m := m) (hC.sq hq) (by rw [cOf_sq ho hq]; omega) hm) ?_
            intro rq IQ Jq h4
            obtain ⟨hv, rfl, hq2⟩ := h4
            rw [cOf_sq ho hq] at hv
            refine V_go 4 rfl ?_
            refine V.st (I' := IQ) (L' := [(0, .ref 15), (1, .int x), (2, .int (i32 m)), (3, .int (sGn T (cOf I 15) p m (i + 1))), (4, .int (i32 (i + 1)))]) (ih.un (i + 1) IQ (by omega) (hq.tr hq2)) rfl ?_
            rw [i32_s, show sGn T (cOf I 15) p m (i + 1) = sGn T (cOf I 15) p m i + rq from by rw [sGn]; rw [if_pos (by have := hp i (by omega); grind), if_neg (by have := bit_ok m hm i (by omega); grind), hv]]
            simp
          · skip
            refine V_go 3 rfl ?_
            refine cVP (mt' := mX0_timeOf) rfl kX0_114 fX0_timeOf rfl rfl rfl (Nat.le_of_ble_eq_true rfl) (Nat.le_of_ble_eq_true rfl) (Nat.le_of_ble_eq_true rfl) (Nat.le_of_ble_eq_true rfl) (Nat.le_refl _) (c_timeOf (c := i) (m := m) (hC.sq hq) (by rw [cOf_sq ho hq]; omega) hm) ?_
            intro rq IQ Jq h5
            obtain ⟨hv, rfl, hq2⟩ := h5
            rw [cOf_sq ho hq] at hv
            refine V_go 5 rfl ?_
            refine V.st (I' := IQ) (L' := [(0, .ref 15), (1, .int x), (2, .int (i32 m)), (3, .int (sGn T (cOf I 15) p m (i + 1))), (4, .int (i32 (i + 1)))]) (ih.un (i + 1) IQ (by omega) (hq.tr hq2)) rfl ?_
            rw [i32_s, show sGn T (cOf I 15) p m (i + 1) = sGn T (cOf I 15) p m i + rq from by rw [sGn]; rw [if_pos (by have := hp i (by omega); grind), if_pos (by have := bit_ok m hm i (by omega); grind), hv]]
            simp
  refine V_go 4 rfl ?_
  exact (key _).un 0 I (Nat.zero_add _) Sq.rf
theorem c_spentOn_23 {x : Int32} {p : Nat → Bool} {m : Nat} {I : I2} {J : J2} {T : TV} (hC : Cok I 23 T) (hp : ∀ i, i < 8 → (x >>> (i32 i &&& 31)) &&& 1 = if p i then 1 else 0) (hm : m < 256) : CT mX0_spentOn 5 58 58 [.ref 23, .int x, .int (i32 m)] I J RF (RP RF (fun r I1 J1 => r = sGn T (cOf I 23) p m (nC (cOf I 23)) ∧ J1 = J ∧ Sq 23 I I1)) := by
  have ho := hC.1
  obtain ⟨-, hT, hr0, hr1, hn0, hn8, hi0, hi6⟩ := id hC
  obtain ⟨e5, hN8⟩ := nC_i hn0 hn8
  refine CT_of okX0_spentOn (Nat.le_of_ble_eq_true rfl) ?_
  show V _ _ _ _ _ _ [(0, _), (1, _), (2, _)] _ _ _ _ _
  have key : ∀ n, Hid (∀ (i : Nat) (I1 : I2), i + n = nC (cOf I 23) → Sq 23 I I1 → V mX0_spentOn none 5 58 (RP RF (fun r I1 J1 => r = sGn T (cOf I 23) p m (nC (cOf I 23)) ∧ J1 = J ∧ Sq 23 I I1)) 5 [(0, .ref 23), (1, .int x), (2, .int (i32 m)), (3, .int (sGn T (cOf I 23) p m i)), (4, .int (i32 i))] [] 58 I1 J RF) := by
    intro n
    induction n with
    | zero =>
      unfold Hid
      intro i I1 hi hq
      refine V_go 3 rfl ?_
      refine V_icmp_ge rfl (fun h1 => ?_) (fun h1 => ?_)
      · skip
        refine V_go 1 rfl ?_
        refine V_iret rfl rfl rfl ?_
        refine RP.mk ⟨?_, rfl, hq⟩
        rw [show i = nC (cOf I 23) from hi]
      · skip
        exfalso
        rw [sq_o ho hq, e5] at h1
        exact h1 (lp_stop hi)
    | succ n ih =>
      unfold Hid
      intro i I1 hi hq
      refine V_go 3 rfl ?_
      refine V_icmp_ge rfl (fun h1 => ?_) (fun h1 => ?_)
      · skip
        exfalso
        rw [sq_o ho hq, e5] at h1
        exact lp_more (by omega) (by omega) h1
      · skip
        refine V_go 6 rfl ?_
        refine V_icmp_ne rfl (fun h2 => ?_) (fun h2 => ?_)
        · skip
          refine V_go 2 rfl ?_
          refine V.st (I' := I1) (L' := [(0, .ref 23), (1, .int x), (2, .int (i32 m)), (3, .int (sGn T (cOf I 23) p m (i + 1))), (4, .int (i32 (i + 1)))]) (ih.un (i + 1) I1 (by omega) hq) rfl ?_
          rw [i32_s, show sGn T (cOf I 23) p m (i + 1) = sGn T (cOf I 23) p m i from by rw [sGn]; rw [if_neg (by have := hp i (by omega); grind)]; simp]
          simp
        · skip
          refine V_go 7 rfl ?_
          refine V_icmp_ne rfl (fun h3 => ?_) (fun h3 => ?_)
          · skip
            refine V_go 3 rfl ?_
            refine cVP (mt' := mX0_silenceOf) rfl kX0_118 fX0_silenceOf rfl rfl rfl (Nat.le_of_ble_eq_true rfl) (Nat.le_of_ble_eq_true rfl) (Nat.le_of_ble_eq_true rfl) (Nat.le_of_ble_eq_true rfl) (Nat.le_refl _) (c_silenceOf (c := i) (m := m) (hC.sq hq) (by rw [cOf_sq ho hq]; omega) hm) ?_
            intro rq IQ Jq h4
            obtain ⟨hv, rfl, hq2⟩ := h4
            rw [cOf_sq ho hq] at hv
            refine V_go 4 rfl ?_
            refine V.st (I' := IQ) (L' := [(0, .ref 23), (1, .int x), (2, .int (i32 m)), (3, .int (sGn T (cOf I 23) p m (i + 1))), (4, .int (i32 (i + 1)))]) (ih.un (i + 1) IQ (by omega) (hq.tr hq2)) rfl ?_
            rw [i32_s, show sGn T (cOf I 23) p m (i + 1) = sGn T (cOf I 23) p m i + rq from by rw [sGn]; rw [if_pos (by have := hp i (by omega); grind), if_neg (by have := bit_ok m hm i (by omega); grind), hv]]
            simp
          · skip
            refine V_go 3 rfl ?_
            refine cVP (mt' := mX0_timeOf) rfl kX0_114 fX0_timeOf rfl rfl rfl (Nat.le_of_ble_eq_true rfl) (Nat.le_of_ble_eq_true rfl) (Nat.le_of_ble_eq_true rfl) (Nat.le_of_ble_eq_true rfl) (Nat.le_refl _) (c_timeOf (c := i) (m := m) (hC.sq hq) (by rw [cOf_sq ho hq]; omega) hm) ?_
            intro rq IQ Jq h5
            obtain ⟨hv, rfl, hq2⟩ := h5
            rw [cOf_sq ho hq] at hv
            refine V_go 5 rfl ?_
            refine V.st (I' := IQ) (L' := [(0, .ref 23), (1, .int x), (2, .int (i32 m)), (3, .int (sGn T (cOf I 23) p m (i + 1))), (4, .int (i32 (i + 1)))]) (ih.un (i + 1) IQ (by omega) (hq.tr hq2)) rfl ?_
            rw [i32_s, show sGn T (cOf I 23) p m (i + 1) = sGn T (cOf I 23) p m i + rq from by rw [sGn]; rw [if_pos (by have := hp i (by omega); grind), if_pos (by have := bit_ok m hm i (by omega); grind), hv]]
            simp
  refine V_go 4 rfl ?_
  exact (key _).un 0 I (Nat.zero_add _) Sq.rf
theorem c_spentOn {o : Nat} {x : Int32} {p : Nat → Bool} {m : Nat} {I : I2} {J : J2} {T : TV} (hC : Cok I o T) (hp : ∀ i, i < 8 → (x >>> (i32 i &&& 31)) &&& 1 = if p i then 1 else 0) (hm : m < 256) : CT mX0_spentOn 5 58 58 [.ref o, .int x, .int (i32 m)] I J RF (RP RF (fun r I1 J1 => r = sGn T (cOf I o) p m (nC (cOf I o)) ∧ J1 = J ∧ Sq o I I1)) := by
  rcases hC.1 with rfl | rfl | rfl
  · exact c_spentOn_7 hC hp hm
  · exact c_spentOn_15 hC hp hm
  · exact c_spentOn_23 hC hp hm
end
section
theorem sGn_congr {T : TV} {C : CC} {p q : Nat → Bool} {m : Nat} : ∀ n, (∀ i, i < n → p i = q i) → sGn T C p m n = sGn T C q m n
  | 0, _ => rfl
  | n + 1, h => by rw [sGn, sGn, sGn_congr n (fun i hi => h i (by omega)), h n (by omega)]
theorem evr_bits {N : Nat} (hN : N ≤ 8) : ∀ i, i < 8 → ((1 : Int32) <<< (i32 N &&& 31) - 1) >>> (i32 i &&& 31) &&& 1 = if decide (i < N) then 1 else 0 := by
  have : N = 0 ∨ N = 1 ∨ N = 2 ∨ N = 3 ∨ N = 4 ∨ N = 5 ∨ N = 6 ∨ N = 7 ∨ N = 8 := by omega
  rcases this with rfl | rfl | rfl | rfl | rfl | rfl | rfl | rfl | rfl <;> decide +kernel
theorem sGn_all {T : TV} {C : CC} {m N : Nat} : sGn T C (fun i => decide (i < N)) m N = sGn T C (fun _ => true) m N := sGn_congr N (fun i hi => by simp [hi])
theorem c_spentBy_7 {m : Nat} {I : I2} {J : J2} {T : TV} (hC : Cok I 7 T) (hm : m < 256) : CT mX0_spentBy 6 58 58 [.ref 7, .int (i32 m)] I J RF (RP RF (fun r I1 J1 => r = sGone T (cOf I 7) m ∧ J1 = J ∧ Sq 7 I I1)) := by
  have ho := hC.1
  obtain ⟨-, hT, hr0, hr1, hn0, hn8, hi0, hi6⟩ := id hC
  obtain ⟨e5, hN8⟩ := nC_i hn0 hn8
  refine CT_of okX0_spentBy (Nat.le_of_ble_eq_true rfl) ?_
  show V _ _ _ _ _ _ [(0, _), (1, _)] _ _ _ _ _
  refine V_go 2 rfl ?_
  refine cVI (mt' := mX0_everyone) rfl kX0_121 fX0_everyone rfl rfl rfl (Nat.le_of_ble_eq_true rfl) (Nat.le_of_ble_eq_true rfl) (Nat.le_of_ble_eq_true rfl) (Nat.le_of_ble_eq_true rfl) (Nat.le_refl _) (c_everyone ho) ?_
  refine V_go 1 rfl ?_
  refine cVP (mt' := mX0_spentOn) rfl kX0_125 fX0_spentOn rfl rfl rfl (Nat.le_of_ble_eq_true rfl) (Nat.le_of_ble_eq_true rfl) (Nat.le_of_ble_eq_true rfl) (Nat.le_of_ble_eq_true rfl) (Nat.le_refl _) (c_spentOn (p := fun i => decide (i < nC (cOf I 7))) (m := m) hC (fun i hi => by rw [e5]; exact evr_bits hN8 i hi) hm) ?_
  intro r2 Ir2 Jr2 h2
  obtain ⟨rfl, rfl, hq2⟩ := h2
  refine V_iret rfl rfl rfl ?_
  exact RP.mk ⟨sGn_all, rfl, hq2⟩
theorem c_spentBy_15 {m : Nat} {I : I2} {J : J2} {T : TV} (hC : Cok I 15 T) (hm : m < 256) : CT mX0_spentBy 6 58 58 [.ref 15, .int (i32 m)] I J RF (RP RF (fun r I1 J1 => r = sGone T (cOf I 15) m ∧ J1 = J ∧ Sq 15 I I1)) := by
  have ho := hC.1
  obtain ⟨-, hT, hr0, hr1, hn0, hn8, hi0, hi6⟩ := id hC
  obtain ⟨e5, hN8⟩ := nC_i hn0 hn8
  refine CT_of okX0_spentBy (Nat.le_of_ble_eq_true rfl) ?_
  show V _ _ _ _ _ _ [(0, _), (1, _)] _ _ _ _ _
  refine V_go 2 rfl ?_
  refine cVI (mt' := mX0_everyone) rfl kX0_121 fX0_everyone rfl rfl rfl (Nat.le_of_ble_eq_true rfl) (Nat.le_of_ble_eq_true rfl) (Nat.le_of_ble_eq_true rfl) (Nat.le_of_ble_eq_true rfl) (Nat.le_refl _) (c_everyone ho) ?_
  refine V_go 1 rfl ?_
  refine cVP (mt' := mX0_spentOn) rfl kX0_125 fX0_spentOn rfl rfl rfl (Nat.le_of_ble_eq_true rfl) (Nat.le_of_ble_eq_true rfl) (Nat.le_of_ble_eq_true rfl) (Nat.le_of_ble_eq_true rfl) (Nat.le_refl _) (c_spentOn (p := fun i => decide (i < nC (cOf I 15))) (m := m) hC (fun i hi => by rw [e5]; exact evr_bits hN8 i hi) hm) ?_
  intro r2 Ir2 Jr2 h2
  obtain ⟨rfl, rfl, hq2⟩ := h2
  refine V_iret rfl rfl rfl ?_
  exact RP.mk ⟨sGn_all, rfl, hq2⟩
theorem c_spentBy_23 {m : Nat} {I : I2} {J : J2} {T : TV} (hC : Cok I 23 T) (hm : m < 256) : CT mX0_spentBy 6 58 58 [.ref 23, .int (i32 m)] I J RF (RP RF (fun r I1 J1 => r = sGone T (cOf I 23) m ∧ J1 = J ∧ Sq 23 I I1)) := by
  have ho := hC.1
  obtain ⟨-, hT, hr0, hr1, hn0, hn8, hi0, hi6⟩ := id hC
  obtain ⟨e5, hN8⟩ := nC_i hn0 hn8
  refine CT_of okX0_spentBy (Nat.le_of_ble_eq_true rfl) ?_
  show V _ _ _ _ _ _ [(0, _), (1, _)] _ _ _ _ _
  refine V_go 2 rfl ?_
  refine cVI (mt' := mX0_everyone) rfl kX0_121 fX0_everyone rfl rfl rfl (Nat.le_of_ble_eq_true rfl) (Nat.le_of_ble_eq_true rfl) (Nat.le_of_ble_eq_true rfl) (Nat.le_of_ble_eq_true rfl) (Nat.le_refl _) (c_everyone ho) ?_
  refine V_go 1 rfl ?_
  refine cVP (mt' := mX0_spentOn) rfl kX0_125 fX0_spentOn rfl rfl rfl (Nat.le_of_ble_eq_true rfl) (Nat.le_of_ble_eq_true rfl) (Nat.le_of_ble_eq_true rfl) (Nat.le_of_ble_eq_true rfl) (Nat.le_refl _) (c_spentOn (p := fun i => decide (i < nC (cOf I 23))) (m := m) hC (fun i hi => by rw [e5]; exact evr_bits hN8 i hi) hm) ?_
  intro r2 Ir2 Jr2 h2
  obtain ⟨rfl, rfl, hq2⟩ := h2
  refine V_iret rfl rfl rfl ?_
  exact RP.mk ⟨sGn_all, rfl, hq2⟩
theorem c_spentBy {o : Nat} {m : Nat} {I : I2} {J : J2} {T : TV} (hC : Cok I o T) (hm : m < 256) : CT mX0_spentBy 6 58 58 [.ref o, .int (i32 m)] I J RF (RP RF (fun r I1 J1 => r = sGone T (cOf I o) m ∧ J1 = J ∧ Sq o I I1)) := by
  rcases hC.1 with rfl | rfl | rfl
  · exact c_spentBy_7 hC hm
  · exact c_spentBy_15 hC hm
  · exact c_spentBy_23 hC hm
theorem c_spentByList_7 {I : I2} {J : J2} {T : TV} (hC : Cok I 7 T) : CT mX0_spentByList 6 58 58 [.ref 7] I J RF (RP RF (fun r I1 J1 => r = sGo T (cOf I 7) ∧ J1 = J ∧ Sq 7 I I1)) := by
  have ho := hC.1
  obtain ⟨-, hT, hr0, hr1, hn0, hn8, hi0, hi6⟩ := id hC
  obtain ⟨e5, hN8⟩ := nC_i hn0 hn8
  refine CT_of okX0_spentByList (Nat.le_of_ble_eq_true rfl) ?_
  show V _ _ _ _ _ _ [(0, _)] _ _ _ _ _
  refine V_go 2 rfl ?_
  refine cVI (mt' := mX0_everyone) rfl kX0_121 fX0_everyone rfl rfl rfl (Nat.le_of_ble_eq_true rfl) (Nat.le_of_ble_eq_true rfl) (Nat.le_of_ble_eq_true rfl) (Nat.le_of_ble_eq_true rfl) (Nat.le_refl _) (c_everyone ho) ?_
  refine V_go 1 rfl ?_
  refine cVP (mt' := mX0_listed) rfl kX0_128 fX0_listed rfl rfl rfl (Nat.le_of_ble_eq_true rfl) (Nat.le_of_ble_eq_true rfl) (Nat.le_of_ble_eq_true rfl) (Nat.le_of_ble_eq_true rfl) (Nat.le_refl _) (c_listed hC) ?_
  intro r2 Ir2 Jr2 h2
  obtain ⟨rfl, rfl, hq⟩ := h2
  refine cVP (mt' := mX0_spentOn) rfl kX0_125 fX0_spentOn rfl rfl rfl (Nat.le_of_ble_eq_true rfl) (Nat.le_of_ble_eq_true rfl) (Nat.le_of_ble_eq_true rfl) (Nat.le_of_ble_eq_true rfl) (Nat.le_refl _) (c_spentOn (p := fun i => decide (i < nC (cOf I 7))) (m := sLst T (cOf I 7)) (hC.sq hq) (fun i hi => by rw [e5]; exact evr_bits hN8 i hi) (sLs_256 T _ hN8)) ?_
  intro r3 Ir3 Jr3 h3
  obtain ⟨rfl, rfl, hq2⟩ := h3
  refine V_iret rfl rfl rfl ?_
  refine RP.mk ⟨?_, rfl, hq.tr hq2⟩
  rw [cOf_sq ho hq]
  exact sGn_all
theorem c_spentByList_15 {I : I2} {J : J2} {T : TV} (hC : Cok I 15 T) : CT mX0_spentByList 6 58 58 [.ref 15] I J RF (RP RF (fun r I1 J1 => r = sGo T (cOf I 15) ∧ J1 = J ∧ Sq 15 I I1)) := by
  have ho := hC.1
  obtain ⟨-, hT, hr0, hr1, hn0, hn8, hi0, hi6⟩ := id hC
  obtain ⟨e5, hN8⟩ := nC_i hn0 hn8
  refine CT_of okX0_spentByList (Nat.le_of_ble_eq_true rfl) ?_
  show V _ _ _ _ _ _ [(0, _)] _ _ _ _ _
  refine V_go 2 rfl ?_
  refine cVI (mt' := mX0_everyone) rfl kX0_121 fX0_everyone rfl rfl rfl (Nat.le_of_ble_eq_true rfl) (Nat.le_of_ble_eq_true rfl) (Nat.le_of_ble_eq_true rfl) (Nat.le_of_ble_eq_true rfl) (Nat.le_refl _) (c_everyone ho) ?_
  refine V_go 1 rfl ?_
  refine cVP (mt' := mX0_listed) rfl kX0_128 fX0_listed rfl rfl rfl (Nat.le_of_ble_eq_true rfl) (Nat.le_of_ble_eq_true rfl) (Nat.le_of_ble_eq_true rfl) (Nat.le_of_ble_eq_true rfl) (Nat.le_refl _) (c_listed hC) ?_
  intro r2 Ir2 Jr2 h2
  obtain ⟨rfl, rfl, hq⟩ := h2
  refine cVP (mt' := mX0_spentOn) rfl kX0_125 fX0_spentOn rfl rfl rfl (Nat.le_of_ble_eq_true rfl) (Nat.le_of_ble_eq_true rfl) (Nat.le_of_ble_eq_true rfl) (Nat.le_of_ble_eq_true rfl) (Nat.le_refl _) (c_spentOn (p := fun i => decide (i < nC (cOf I 15))) (m := sLst T (cOf I 15)) (hC.sq hq) (fun i hi => by rw [e5]; exact evr_bits hN8 i hi) (sLs_256 T _ hN8)) ?_
  intro r3 Ir3 Jr3 h3
  obtain ⟨rfl, rfl, hq2⟩ := h3
  refine V_iret rfl rfl rfl ?_
  refine RP.mk ⟨?_, rfl, hq.tr hq2⟩
  rw [cOf_sq ho hq]
  exact sGn_all
theorem c_spentByList_23 {I : I2} {J : J2} {T : TV} (hC : Cok I 23 T) : CT mX0_spentByList 6 58 58 [.ref 23] I J RF (RP RF (fun r I1 J1 => r = sGo T (cOf I 23) ∧ J1 = J ∧ Sq 23 I I1)) := by
  have ho := hC.1
  obtain ⟨-, hT, hr0, hr1, hn0, hn8, hi0, hi6⟩ := id hC
  obtain ⟨e5, hN8⟩ := nC_i hn0 hn8
  refine CT_of okX0_spentByList (Nat.le_of_ble_eq_true rfl) ?_
  show V _ _ _ _ _ _ [(0, _)] _ _ _ _ _
  refine V_go 2 rfl ?_
  refine cVI (mt' := mX0_everyone) rfl kX0_121 fX0_everyone rfl rfl rfl (Nat.le_of_ble_eq_true rfl) (Nat.le_of_ble_eq_true rfl) (Nat.le_of_ble_eq_true rfl) (Nat.le_of_ble_eq_true rfl) (Nat.le_refl _) (c_everyone ho) ?_
  refine V_go 1 rfl ?_
  refine cVP (mt' := mX0_listed) rfl kX0_128 fX0_listed rfl rfl rfl (Nat.le_of_ble_eq_true rfl) (Nat.le_of_ble_eq_true rfl) (Nat.le_of_ble_eq_true rfl) (Nat.le_of_ble_eq_true rfl) (Nat.le_refl _) (c_listed hC) ?_
  intro r2 Ir2 Jr2 h2
  obtain ⟨rfl, rfl, hq⟩ := h2
  refine cVP (mt' := mX0_spentOn) rfl kX0_125 fX0_spentOn rfl rfl rfl (Nat.le_of_ble_eq_true rfl) (Nat.le_of_ble_eq_true rfl) (Nat.le_of_ble_eq_true rfl) (Nat.le_of_ble_eq_true rfl) (Nat.le_refl _) (c_spentOn (p := fun i => decide (i < nC (cOf I 23))) (m := sLst T (cOf I 23)) (hC.sq hq) (fun i hi => by rw [e5]; exact evr_bits hN8 i hi) (sLs_256 T _ hN8)) ?_
  intro r3 Ir3 Jr3 h3
  obtain ⟨rfl, rfl, hq2⟩ := h3
  refine V_iret rfl rfl rfl ?_
  refine RP.mk ⟨?_, rfl, hq.tr hq2⟩
  rw [cOf_sq ho hq]
  exact sGn_all
theorem c_spentByList {o : Nat} {I : I2} {J : J2} {T : TV} (hC : Cok I o T) : CT mX0_spentByList 6 58 58 [.ref o] I J RF (RP RF (fun r I1 J1 => r = sGo T (cOf I o) ∧ J1 = J ∧ Sq o I I1)) := by
  rcases hC.1 with rfl | rfl | rfl
  · exact c_spentByList_7 hC
  · exact c_spentByList_15 hC
  · exact c_spentByList_23 hC
theorem c_minutesLeft_7 {I : I2} {J : J2} {T : TV} (hC : Cok I 7 T) : CT mX0_minutesLeft 6 58 58 [.ref 7] I J RF (RP RF (fun r I1 J1 => r = sLeft T (cOf I 7) ∧ J1 = J ∧ Sq 7 I I1)) := by
  have ho := hC.1
  obtain ⟨-, hT, hr0, hr1, hn0, hn8, hi0, hi6⟩ := id hC
  obtain ⟨e5, hN8⟩ := nC_i hn0 hn8
  refine CT_of okX0_minutesLeft (Nat.le_of_ble_eq_true rfl) ?_
  show V _ _ _ _ _ _ [(0, _)] _ _ _ _ _
  refine V_go 5 rfl ?_
  refine cVI (mt' := mX0_everyone) rfl kX0_121 fX0_everyone rfl rfl rfl (Nat.le_of_ble_eq_true rfl) (Nat.le_of_ble_eq_true rfl) (Nat.le_of_ble_eq_true rfl) (Nat.le_of_ble_eq_true rfl) (Nat.le_refl _) (c_everyone ho) ?_
  refine V_go 1 rfl ?_
  refine cVP (mt' := mX0_listed) rfl kX0_128 fX0_listed rfl rfl rfl (Nat.le_of_ble_eq_true rfl) (Nat.le_of_ble_eq_true rfl) (Nat.le_of_ble_eq_true rfl) (Nat.le_of_ble_eq_true rfl) (Nat.le_refl _) (c_listed hC) ?_
  intro r2 Ir2 Jr2 h2
  obtain ⟨rfl, rfl, hq⟩ := h2
  refine cVP (mt' := mX0_spentOn) rfl kX0_125 fX0_spentOn rfl rfl rfl (Nat.le_of_ble_eq_true rfl) (Nat.le_of_ble_eq_true rfl) (Nat.le_of_ble_eq_true rfl) (Nat.le_of_ble_eq_true rfl) (Nat.le_refl _) (c_spentOn (p := fun i => decide (i < nC (cOf I 7))) (m := sLst T (cOf I 7)) (hC.sq hq) (fun i hi => by rw [e5]; exact evr_bits hN8 i hi) (sLs_256 T _ hN8)) ?_
  intro r3 Ir3 Jr3 h3
  obtain ⟨rfl, rfl, hq2⟩ := h3
  refine V_go 1 rfl ?_
  refine V_mmax (wl1 := 638) (wst := 388) (wi1 := 119) (wc1 := 389) rfl (by decide +kernel) (by decide +kernel) (by decide +kernel) (by decide +kernel) (Nat.le_of_ble_eq_true rfl) (Nat.le_of_ble_eq_true rfl) ?_
  refine V_iret rfl rfl rfl ?_
  refine RP.mk ⟨?_, rfl, hq.tr hq2⟩
  rw [cOf_sq ho hq, sGn_all]
  show _ = if cOf I 7 0 1 - sGo T (cOf I 7) < 0 then 0 else cOf I 7 0 1 - sGo T (cOf I 7)
  show (if 0 < I 7 3 - sGo T (cOf I 7) then I 7 3 - sGo T (cOf I 7) else 0) = (if I 7 3 - sGo T (cOf I 7) < 0 then 0 else I 7 3 - sGo T (cOf I 7))
  grind
theorem c_minutesLeft_15 {I : I2} {J : J2} {T : TV} (hC : Cok I 15 T) : CT mX0_minutesLeft 6 58 58 [.ref 15] I J RF (RP RF (fun r I1 J1 => r = sLeft T (cOf I 15) ∧ J1 = J ∧ Sq 15 I I1)) := by
  have ho := hC.1
  obtain ⟨-, hT, hr0, hr1, hn0, hn8, hi0, hi6⟩ := id hC
  obtain ⟨e5, hN8⟩ := nC_i hn0 hn8
  refine CT_of okX0_minutesLeft (Nat.le_of_ble_eq_true rfl) ?_
  show V _ _ _ _ _ _ [(0, _)] _ _ _ _ _
  refine V_go 5 rfl ?_
  refine cVI (mt' := mX0_everyone) rfl kX0_121 fX0_everyone rfl rfl rfl (Nat.le_of_ble_eq_true rfl) (Nat.le_of_ble_eq_true rfl) (Nat.le_of_ble_eq_true rfl) (Nat.le_of_ble_eq_true rfl) (Nat.le_refl _) (c_everyone ho) ?_
  refine V_go 1 rfl ?_
  refine cVP (mt' := mX0_listed) rfl kX0_128 fX0_listed rfl rfl rfl (Nat.le_of_ble_eq_true rfl) (Nat.le_of_ble_eq_true rfl) (Nat.le_of_ble_eq_true rfl) (Nat.le_of_ble_eq_true rfl) (Nat.le_refl _) (c_listed hC) ?_
  intro r2 Ir2 Jr2 h2
  obtain ⟨rfl, rfl, hq⟩ := h2
  refine cVP (mt' := mX0_spentOn) rfl kX0_125 fX0_spentOn rfl rfl rfl (Nat.le_of_ble_eq_true rfl) (Nat.le_of_ble_eq_true rfl) (Nat.le_of_ble_eq_true rfl) (Nat.le_of_ble_eq_true rfl) (Nat.le_refl _) (c_spentOn (p := fun i => decide (i < nC (cOf I 15))) (m := sLst T (cOf I 15)) (hC.sq hq) (fun i hi => by rw [e5]; exact evr_bits hN8 i hi) (sLs_256 T _ hN8)) ?_
  intro r3 Ir3 Jr3 h3
  obtain ⟨rfl, rfl, hq2⟩ := h3
  refine V_go 1 rfl ?_
  refine V_mmax (wl1 := 638) (wst := 388) (wi1 := 119) (wc1 := 389) rfl (by decide +kernel) (by decide +kernel) (by decide +kernel) (by decide +kernel) (Nat.le_of_ble_eq_true rfl) (Nat.le_of_ble_eq_true rfl) ?_
  refine V_iret rfl rfl rfl ?_
  refine RP.mk ⟨?_, rfl, hq.tr hq2⟩
  rw [cOf_sq ho hq, sGn_all]
  show _ = if cOf I 15 0 1 - sGo T (cOf I 15) < 0 then 0 else cOf I 15 0 1 - sGo T (cOf I 15)
  show (if 0 < I 15 3 - sGo T (cOf I 15) then I 15 3 - sGo T (cOf I 15) else 0) = (if I 15 3 - sGo T (cOf I 15) < 0 then 0 else I 15 3 - sGo T (cOf I 15))
  grind
theorem c_minutesLeft_23 {I : I2} {J : J2} {T : TV} (hC : Cok I 23 T) : CT mX0_minutesLeft 6 58 58 [.ref 23] I J RF (RP RF (fun r I1 J1 => r = sLeft T (cOf I 23) ∧ J1 = J ∧ Sq 23 I I1)) := by
  have ho := hC.1
  obtain ⟨-, hT, hr0, hr1, hn0, hn8, hi0, hi6⟩ := id hC
  obtain ⟨e5, hN8⟩ := nC_i hn0 hn8
  refine CT_of okX0_minutesLeft (Nat.le_of_ble_eq_true rfl) ?_
  show V _ _ _ _ _ _ [(0, _)] _ _ _ _ _
  refine V_go 5 rfl ?_
  refine cVI (mt' := mX0_everyone) rfl kX0_121 fX0_everyone rfl rfl rfl (Nat.le_of_ble_eq_true rfl) (Nat.le_of_ble_eq_true rfl) (Nat.le_of_ble_eq_true rfl) (Nat.le_of_ble_eq_true rfl) (Nat.le_refl _) (c_everyone ho) ?_
  refine V_go 1 rfl ?_
  refine cVP (mt' := mX0_listed) rfl kX0_128 fX0_listed rfl rfl rfl (Nat.le_of_ble_eq_true rfl) (Nat.le_of_ble_eq_true rfl) (Nat.le_of_ble_eq_true rfl) (Nat.le_of_ble_eq_true rfl) (Nat.le_refl _) (c_listed hC) ?_
  intro r2 Ir2 Jr2 h2
  obtain ⟨rfl, rfl, hq⟩ := h2
  refine cVP (mt' := mX0_spentOn) rfl kX0_125 fX0_spentOn rfl rfl rfl (Nat.le_of_ble_eq_true rfl) (Nat.le_of_ble_eq_true rfl) (Nat.le_of_ble_eq_true rfl) (Nat.le_of_ble_eq_true rfl) (Nat.le_refl _) (c_spentOn (p := fun i => decide (i < nC (cOf I 23))) (m := sLst T (cOf I 23)) (hC.sq hq) (fun i hi => by rw [e5]; exact evr_bits hN8 i hi) (sLs_256 T _ hN8)) ?_
  intro r3 Ir3 Jr3 h3
  obtain ⟨rfl, rfl, hq2⟩ := h3
  refine V_go 1 rfl ?_
  refine V_mmax (wl1 := 638) (wst := 388) (wi1 := 119) (wc1 := 389) rfl (by decide +kernel) (by decide +kernel) (by decide +kernel) (by decide +kernel) (Nat.le_of_ble_eq_true rfl) (Nat.le_of_ble_eq_true rfl) ?_
  refine V_iret rfl rfl rfl ?_
  refine RP.mk ⟨?_, rfl, hq.tr hq2⟩
  rw [cOf_sq ho hq, sGn_all]
  show _ = if cOf I 23 0 1 - sGo T (cOf I 23) < 0 then 0 else cOf I 23 0 1 - sGo T (cOf I 23)
  show (if 0 < I 23 3 - sGo T (cOf I 23) then I 23 3 - sGo T (cOf I 23) else 0) = (if I 23 3 - sGo T (cOf I 23) < 0 then 0 else I 23 3 - sGo T (cOf I 23))
  grind
theorem c_minutesLeft {o : Nat} {I : I2} {J : J2} {T : TV} (hC : Cok I o T) : CT mX0_minutesLeft 6 58 58 [.ref o] I J RF (RP RF (fun r I1 J1 => r = sLeft T (cOf I o) ∧ J1 = J ∧ Sq o I I1)) := by
  rcases hC.1 with rfl | rfl | rfl
  · exact c_minutesLeft_7 hC
  · exact c_minutesLeft_15 hC
  · exact c_minutesLeft_23 hC
end
section
/-- council o may have changed, and the evaluator's stack; nothing else -/
def Fr (o : Nat) (I I1 : I2) : Prop := ∀ a, a ≠ 4 → (a < o ∨ o + 8 ≤ a) → I1 a = I a
theorem Fr.rf {o : Nat} {I : I2} : Fr o I I := fun _ _ _ => rfl
theorem Fr.tr {o : Nat} {I I1 I2' : I2} (h1 : Fr o I I1) (h2 : Fr o I1 I2') : Fr o I I2' := fun a h3 h4 => (h2 a h3 h4).trans (h1 a h3 h4)
theorem Sq.fr {o : Nat} {I I1 : I2} (h : Sq o I I1) : Fr o I I1 := fun a h1 h2 => h a h1 (by omega)
theorem Fr.up {o a k : Nat} {I : I2} {v : Int32} (h : o ≤ a ∧ a < o + 8) : Fr o I (up2 I a k v) := fun b h1 h2 => up2_ne (by omega)
theorem Cok.fr {I I1 : I2} {o : Nat} {T : TV} (h : Cok I o T) (q : Fr o I I1) (e : cOf I1 o 0 = cOf I o 0) : Cok I1 o T := by
  obtain ⟨ho, ⟨h1, h2, h3⟩, h4⟩ := h
  have e1 : I1 1 = I 1 := q 1 (by omega) (by rcases ho with rfl | rfl | rfl <;> omega)
  have e2 : I1 2 = I 2 := q 2 (by omega) (by rcases ho with rfl | rfl | rfl <;> omega)
  have e3 : I1 3 = I 3 := q 3 (by omega) (by rcases ho with rfl | rfl | rfl <;> omega)
  have f2 : I1 o 4 = I o 4 := congrFun e 2
  have f3 : I1 o 5 = I o 5 := congrFun e 3
  have f4 : I1 o 9 = I o 9 := congrFun e 4
  refine ⟨ho, ⟨?_, ?_, ?_⟩, ?_⟩
  · rw [e1]; exact h1
  · rw [e1]; exact h2
  · rw [e1, e2, e3]; exact h3
  · rw [f2, f3, f4, e1]; exact h4
theorem cOf_row {I : I2} {o a g i : Nat} {v : Int32} (ha : a = o + g + 1) (hg : 1 ≤ g ∧ g ≤ 6) : cOf (up2 I a i v) o = up2 (cOf I o) g i v := by
  have : g = 1 ∨ g = 2 ∨ g = 3 ∨ g = 4 ∨ g = 5 ∨ g = 6 := by omega
  funext x y
  have n0 : o ≠ a := by omega
  rcases this with rfl | rfl | rfl | rfl | rfl | rfl <;> subst ha <;>
    (match x with
     | 0 => simp [cOf, up2, n0]
     | 1 => simp [cOf, up2]
     | 2 => simp [cOf, up2]
     | 3 => simp [cOf, up2]
     | 4 => simp [cOf, up2]
     | 5 => simp [cOf, up2]
     | 6 => simp [cOf, up2]
     | x + 7 => simp [cOf, up2])
def fldJ (f : Nat) : Nat := if f = 2 then 0 else if f = 3 then 1 else if f = 4 then 2 else if f = 5 then 3 else 4
theorem cOf_fld {I : I2} {o f : Nat} {v : Int32} (hf : f = 2 ∨ f = 3 ∨ f = 4 ∨ f = 5 ∨ f = 9) : cOf (up2 I o f v) o = up2 (cOf I o) 0 (fldJ f) v := by
  funext x y
  rcases hf with rfl | rfl | rfl | rfl | rfl <;>
    (match x with
     | 0 => (match y with
       | 0 => simp [cOf, up2, fldJ]
       | 1 => simp [cOf, up2, fldJ]
       | 2 => simp [cOf, up2, fldJ]
       | 3 => simp [cOf, up2, fldJ]
       | 4 => simp [cOf, up2, fldJ]
       | y + 5 => simp [cOf, up2, fldJ])
     | 1 => simp [cOf, up2]
     | 2 => simp [cOf, up2]
     | 3 => simp [cOf, up2]
     | 4 => simp [cOf, up2]
     | 5 => simp [cOf, up2]
     | 6 => simp [cOf, up2]
     | x + 7 => simp [cOf, up2])
def sMi (C : CC) (i : Nat) (left : Int32) : Int32 := if C 4 i - C 5 i < left then C 4 i - C 5 i else left
def sGoOn (C : CC) (i : Nat) (left : Int32) : CC × Int32 :=
  if C 6 i = -1 then
    (if C 4 i ≤ C 5 i + sMi C i left then (up2 (up2 C 5 i (C 5 i + sMi C i left)) 6 i (C 0 0), sMi C i left)
    else (up2 C 5 i (C 5 i + sMi C i left), sMi C i left))
  else (C, 0)
def sHoldN (C : CC) (l0 : Int32) : Nat → CC × Int32
  | 0 => (C, l0)
  | i + 1 => ((sGoOn (sHoldN C l0 i).1 i (sHoldN C l0 i).2).1, (sHoldN C l0 i).2 - (sGoOn (sHoldN C l0 i).1 i (sHoldN C l0 i).2).2)
/-- a sitting: the council behind it, the minutes left over -/
def sHold (T : TV) (C : CC) : CC × Int32 := (up2 (sHoldN C (sLeft T C) (mC C)).1 0 0 (C 0 0 + 1), (sHoldN C (sLeft T C) (mC C)).2)
def sDW (T : TV) (it : Nat) : Nat → CC → CC
  | 0, C => C
  | k + 1, C => if C 6 it = -1 then sDW T it k (sHold T C).1 else C
def sCntD (C : CC) : Nat → Int32
  | 0 => 0
  | i + 1 => sCntD C i + (if C 6 i = -1 then 0 else 1)
theorem sGoOn_a {C : CC} {i : Nat} {l : Int32} (h : C 6 i = -1) (h2 : C 4 i ≤ C 5 i + sMi C i l) : sGoOn C i l = (up2 (up2 C 5 i (C 5 i + sMi C i l)) 6 i (C 0 0), sMi C i l) := by
  unfold sGoOn
  rw [if_pos h, if_pos h2]
theorem sGoOn_b {C : CC} {i : Nat} {l : Int32} (h : C 6 i = -1) (h2 : ¬ C 4 i ≤ C 5 i + sMi C i l) : sGoOn C i l = (up2 C 5 i (C 5 i + sMi C i l), sMi C i l) := by
  unfold sGoOn
  rw [if_pos h, if_neg h2]
theorem sGoOn_c {C : CC} {i : Nat} {l : Int32} (h : ¬ C 6 i = -1) : sGoOn C i l = (C, 0) := by
  unfold sGoOn
  rw [if_neg h]
theorem sGoOn_0 (C : CC) (i : Nat) (l : Int32) : (sGoOn C i l).1 0 = C 0 := by
  by_cases h : C 6 i = -1
  · by_cases h2 : C 4 i ≤ C 5 i + sMi C i l
    · rw [sGoOn_a h h2]
      simp only
      rw [up2_ne (by omega), up2_ne (by omega)]
    · rw [sGoOn_b h h2]
      simp only
      rw [up2_ne (by omega)]
  · rw [sGoOn_c h]
theorem sHoldN_0 (C : CC) (l : Int32) : ∀ i, (sHoldN C l i).1 0 = C 0
  | 0 => rfl
  | i + 1 => by rw [sHoldN, sGoOn_0, sHoldN_0 C l i]
theorem mC_i {I : I2} {o : Nat} (h0 : 0 ≤ I o 9) (h8 : I o 9 ≤ 6) : I o 9 = i32 (mC (cOf I o)) ∧ mC (cOf I o) ≤ 6 := by
  have h1 : mC (cOf I o) = (I o 9).toNatClampNeg := rfl
  have h2 := tcn (I o 9) h0
  exact ⟨by rw [h1]; exact (Int32.ofNat_toNatClampNeg _ h0).symm, by rw [h1]; grind⟩
theorem mC_lt {I : I2} {o c : Nat} (h0 : 0 ≤ I o 9) (h8 : I o 9 ≤ 6) (hc : c < mC (cOf I o)) : c < 6 ∧ i32 c < I o 9 ∧ 0 ≤ i32 c ∧ i32 c < 6 ∧ (i32 c).toNatClampNeg = c := by
  obtain ⟨h1, h2⟩ := mC_i h0 h8
  rw [h1]
  exact ⟨by omega, by grind [i32_ti], by grind [i32_ti], by grind [i32_ti], tn_of (by omega)⟩
theorem c_goOnWith_7 {i : Nat} {left : Int32} {I : I2} {J : J2} {T : TV} (hC : Cok I 7 T) (hi : i < mC (cOf I 7)) : CT mX0_goOnWith 2 58 58 [.ref 7, .int (i32 i), .int left] I J RF (RP RF (fun r I1 J1 => r = (sGoOn (cOf I 7) i left).2 ∧ cOf I1 7 = (sGoOn (cOf I 7) i left).1 ∧ J1 = J ∧ Fr 7 I I1)) := by
  have ho := hC.1
  obtain ⟨-, hT, hr0, hr1, hn0, hn8, hi0, hi6⟩ := id hC
  obtain ⟨hc6, hcn, hc0, hcx, hct⟩ := mC_lt hi0 hi6 hi
  refine CT_of okX0_goOnWith (Nat.le_of_ble_eq_true rfl) ?_
  show V _ _ _ _ _ _ [(0, _), (1, _), (2, _)] _ _ _ _ _
  refine V_go 2 rfl ?_
  try simp only [up2_rd, row2_rd, reduceIte, Nat.reduceEqDiff, hct]
  refine cVI (mt' := mX0_hasItem) rfl kX0_65 fX0_hasItem rfl rfl rfl (Nat.le_of_ble_eq_true rfl) (Nat.le_of_ble_eq_true rfl) (Nat.le_of_ble_eq_true rfl) (Nat.le_of_ble_eq_true rfl) (Nat.le_refl _) (c_hasItem ho) ?_
  refine V_if_eq rfl (fun h2 => ?_) (fun h2 => ?_)
  · skip
    exfalso
    grind [b2i]
  · skip
    refine V_go 3 rfl ?_
    try simp only [up2_rd, row2_rd, reduceIte, Nat.reduceEqDiff, hct]
    refine V_iald rfl rfl (Nat.le_of_ble_eq_true rfl) (inb_ofN (by decide) hc0 hcx) ?_
    try simp only [up2_rd, row2_rd, reduceIte, Nat.reduceEqDiff, hct]
    refine V_go 1 rfl ?_
    try simp only [up2_rd, row2_rd, reduceIte, Nat.reduceEqDiff, hct]
    refine V_icmp_eq rfl (fun h3 => ?_) (fun h3 => ?_)
    · skip
      refine V_go 4 rfl ?_
      try simp only [up2_rd, row2_rd, reduceIte, Nat.reduceEqDiff, hct]
      refine V_iald rfl rfl (Nat.le_of_ble_eq_true rfl) (inb_ofN (by decide) hc0 hcx) ?_
      try simp only [up2_rd, row2_rd, reduceIte, Nat.reduceEqDiff, hct]
      refine V_go 3 rfl ?_
      try simp only [up2_rd, row2_rd, reduceIte, Nat.reduceEqDiff, hct]
      refine V_iald rfl rfl (Nat.le_of_ble_eq_true rfl) (inb_ofN (by decide) hc0 hcx) ?_
      try simp only [up2_rd, row2_rd, reduceIte, Nat.reduceEqDiff, hct]
      refine V_go 1 rfl ?_
      try simp only [up2_rd, row2_rd, reduceIte, Nat.reduceEqDiff, hct]
      refine V_mmin (wl1 := 666) (wst := 385) (wi1 := 119) (wc1 := 386) rfl (by decide +kernel) (by decide +kernel) (by decide +kernel) (by decide +kernel) (Nat.le_of_ble_eq_true rfl) (Nat.le_of_ble_eq_true rfl) ?_
      try simp only [up2_rd, row2_rd, reduceIte, Nat.reduceEqDiff, hct]
      refine V_go 5 rfl ?_
      try simp only [up2_rd, row2_rd, reduceIte, Nat.reduceEqDiff, hct]
      refine V_iald rfl rfl (Nat.le_of_ble_eq_true rfl) (inb_ofN (by decide) hc0 hcx) ?_
      try simp only [up2_rd, row2_rd, reduceIte, Nat.reduceEqDiff, hct]
      refine V_go 2 rfl ?_
      try simp only [up2_rd, row2_rd, reduceIte, Nat.reduceEqDiff, hct]
      refine V_iast rfl rfl (Nat.le_of_ble_eq_true rfl) (inb_ofN (by decide) hc0 hcx) ?_
      refine V_go 3 rfl ?_
      try simp only [up2_rd, row2_rd, reduceIte, Nat.reduceEqDiff, hct]
      refine V_iald rfl rfl (Nat.le_of_ble_eq_true rfl) (inb_ofN (by decide) hc0 hcx) ?_
      try simp only [up2_rd, row2_rd, reduceIte, Nat.reduceEqDiff, hct]
      refine V_go 3 rfl ?_
      try simp only [up2_rd, row2_rd, reduceIte, Nat.reduceEqDiff, hct]
      refine V_iald rfl rfl (Nat.le_of_ble_eq_true rfl) (inb_ofN (by decide) hc0 hcx) ?_
      try simp only [up2_rd, row2_rd, reduceIte, Nat.reduceEqDiff, hct]
      refine V_icmp_lt rfl (fun h4 => ?_) (fun h4 => ?_)
      · skip
        refine V_go 1 rfl ?_
        try simp only [up2_rd, row2_rd, reduceIte, Nat.reduceEqDiff, hct]
        refine V_iret rfl rfl rfl ?_
        first
          | (have e := sGoOn_a (C := cOf I 7) (i := i) (l := left) h3 (Int32.not_lt.mp h4)
             refine RP.mk ⟨?_, ?_, rfl, (Fr.up (by omega)).tr (Fr.up (by omega))⟩
             · rw [e]; rfl
             · rw [e, cOf_row (o := 7) (g := 6) rfl (by omega), cOf_row (o := 7) (g := 5) rfl (by omega)]; rfl)
          | (have e := sGoOn_b (C := cOf I 7) (i := i) (l := left) h3 (Int32.not_le.mpr h4)
             refine RP.mk ⟨?_, ?_, rfl, Fr.up (by omega)⟩
             · rw [e]; rfl
             · rw [e, cOf_row (o := 7) (g := 5) rfl (by omega)]; rfl)
          | (have e := sGoOn_c (C := cOf I 7) (i := i) (l := left) h3
             refine RP.mk ⟨?_, ?_, rfl, Fr.rf⟩
             · rw [e]
             · rw [e])
      · skip
        refine V_go 5 rfl ?_
        try simp only [up2_rd, row2_rd, reduceIte, Nat.reduceEqDiff, hct]
        refine V_iast rfl rfl (Nat.le_of_ble_eq_true rfl) (inb_ofN (by decide) hc0 hcx) ?_
        refine V_go 1 rfl ?_
        try simp only [up2_rd, row2_rd, reduceIte, Nat.reduceEqDiff, hct]
        refine V_iret rfl rfl rfl ?_
        first
          | (have e := sGoOn_a (C := cOf I 7) (i := i) (l := left) h3 (Int32.not_lt.mp h4)
             refine RP.mk ⟨?_, ?_, rfl, (Fr.up (by omega)).tr (Fr.up (by omega))⟩
             · rw [e]; rfl
             · rw [e, cOf_row (o := 7) (g := 6) rfl (by omega), cOf_row (o := 7) (g := 5) rfl (by omega)]; rfl)
          | (have e := sGoOn_b (C := cOf I 7) (i := i) (l := left) h3 (Int32.not_le.mpr h4)
             refine RP.mk ⟨?_, ?_, rfl, Fr.up (by omega)⟩
             · rw [e]; rfl
             · rw [e, cOf_row (o := 7) (g := 5) rfl (by omega)]; rfl)
          | (have e := sGoOn_c (C := cOf I 7) (i := i) (l := left) h3
             refine RP.mk ⟨?_, ?_, rfl, Fr.rf⟩
             · rw [e]
             · rw [e])
    · skip
      refine V_go 1 rfl ?_
      try simp only [up2_rd, row2_rd, reduceIte, Nat.reduceEqDiff, hct]
      refine V_iret rfl rfl rfl ?_
      first
        | (have e := sGoOn_a (C := cOf I 7) (i := i) (l := left) h3 (Int32.not_lt.mp h4)
           refine RP.mk ⟨?_, ?_, rfl, (Fr.up (by omega)).tr (Fr.up (by omega))⟩
           · rw [e]; rfl
           · rw [e, cOf_row (o := 7) (g := 6) rfl (by omega), cOf_row (o := 7) (g := 5) rfl (by omega)]; rfl)
        | (have e := sGoOn_b (C := cOf I 7) (i := i) (l := left) h3 (Int32.not_le.mpr h4)
           refine RP.mk ⟨?_, ?_, rfl, Fr.up (by omega)⟩
           · rw [e]; rfl
           · rw [e, cOf_row (o := 7) (g := 5) rfl (by omega)]; rfl)
        | (have e := sGoOn_c (C := cOf I 7) (i := i) (l := left) h3
           refine RP.mk ⟨?_, ?_, rfl, Fr.rf⟩
           · rw [e]
           · rw [e])
theorem c_goOnWith_15 {i : Nat} {left : Int32} {I : I2} {J : J2} {T : TV} (hC : Cok I 15 T) (hi : i < mC (cOf I 15)) : CT mX0_goOnWith 2 58 58 [.ref 15, .int (i32 i), .int left] I J RF (RP RF (fun r I1 J1 => r = (sGoOn (cOf I 15) i left).2 ∧ cOf I1 15 = (sGoOn (cOf I 15) i left).1 ∧ J1 = J ∧ Fr 15 I I1)) := by
  have ho := hC.1
  obtain ⟨-, hT, hr0, hr1, hn0, hn8, hi0, hi6⟩ := id hC
  obtain ⟨hc6, hcn, hc0, hcx, hct⟩ := mC_lt hi0 hi6 hi
  refine CT_of okX0_goOnWith (Nat.le_of_ble_eq_true rfl) ?_
  show V _ _ _ _ _ _ [(0, _), (1, _), (2, _)] _ _ _ _ _
  refine V_go 2 rfl ?_
  try simp only [up2_rd, row2_rd, reduceIte, Nat.reduceEqDiff, hct]
  refine cVI (mt' := mX0_hasItem) rfl kX0_65 fX0_hasItem rfl rfl rfl (Nat.le_of_ble_eq_true rfl) (Nat.le_of_ble_eq_true rfl) (Nat.le_of_ble_eq_true rfl) (Nat.le_of_ble_eq_true rfl) (Nat.le_refl _) (c_hasItem ho) ?_
  refine V_if_eq rfl (fun h2 => ?_) (fun h2 => ?_)
  · skip
    exfalso
    grind [b2i]
  · skip
    refine V_go 3 rfl ?_
    try simp only [up2_rd, row2_rd, reduceIte, Nat.reduceEqDiff, hct]
    refine V_iald rfl rfl (Nat.le_of_ble_eq_true rfl) (inb_ofN (by decide) hc0 hcx) ?_
    try simp only [up2_rd, row2_rd, reduceIte, Nat.reduceEqDiff, hct]
    refine V_go 1 rfl ?_
    try simp only [up2_rd, row2_rd, reduceIte, Nat.reduceEqDiff, hct]
    refine V_icmp_eq rfl (fun h3 => ?_) (fun h3 => ?_)
    · skip
      refine V_go 4 rfl ?_
      try simp only [up2_rd, row2_rd, reduceIte, Nat.reduceEqDiff, hct]
      refine V_iald rfl rfl (Nat.le_of_ble_eq_true rfl) (inb_ofN (by decide) hc0 hcx) ?_
      try simp only [up2_rd, row2_rd, reduceIte, Nat.reduceEqDiff, hct]
      refine V_go 3 rfl ?_
      try simp only [up2_rd, row2_rd, reduceIte, Nat.reduceEqDiff, hct]
      refine V_iald rfl rfl (Nat.le_of_ble_eq_true rfl) (inb_ofN (by decide) hc0 hcx) ?_
      try simp only [up2_rd, row2_rd, reduceIte, Nat.reduceEqDiff, hct]
      refine V_go 1 rfl ?_
      try simp only [up2_rd, row2_rd, reduceIte, Nat.reduceEqDiff, hct]
      refine V_mmin (wl1 := 666) (wst := 385) (wi1 := 119) (wc1 := 386) rfl (by decide +kernel) (by decide +kernel) (by decide +kernel) (by decide +kernel) (Nat.le_of_ble_eq_true rfl) (Nat.le_of_ble_eq_true rfl) ?_
      try simp only [up2_rd, row2_rd, reduceIte, Nat.reduceEqDiff, hct]
      refine V_go 5 rfl ?_
      try simp only [up2_rd, row2_rd, reduceIte, Nat.reduceEqDiff, hct]
      refine V_iald rfl rfl (Nat.le_of_ble_eq_true rfl) (inb_ofN (by decide) hc0 hcx) ?_
      try simp only [up2_rd, row2_rd, reduceIte, Nat.reduceEqDiff, hct]
      refine V_go 2 rfl ?_
      try simp only [up2_rd, row2_rd, reduceIte, Nat.reduceEqDiff, hct]
      refine V_iast rfl rfl (Nat.le_of_ble_eq_true rfl) (inb_ofN (by decide) hc0 hcx) ?_
      refine V_go 3 rfl ?_
      try simp only [up2_rd, row2_rd, reduceIte, Nat.reduceEqDiff, hct]
      refine V_iald rfl rfl (Nat.le_of_ble_eq_true rfl) (inb_ofN (by decide) hc0 hcx) ?_
      try simp only [up2_rd, row2_rd, reduceIte, Nat.reduceEqDiff, hct]
      refine V_go 3 rfl ?_
      try simp only [up2_rd, row2_rd, reduceIte, Nat.reduceEqDiff, hct]
      refine V_iald rfl rfl (Nat.le_of_ble_eq_true rfl) (inb_ofN (by decide) hc0 hcx) ?_
      try simp only [up2_rd, row2_rd, reduceIte, Nat.reduceEqDiff, hct]
      refine V_icmp_lt rfl (fun h4 => ?_) (fun h4 => ?_)
      · skip
        refine V_go 1 rfl ?_
        try simp only [up2_rd, row2_rd, reduceIte, Nat.reduceEqDiff, hct]
        refine V_iret rfl rfl rfl ?_
        first
          | (have e := sGoOn_a (C := cOf I 15) (i := i) (l := left) h3 (Int32.not_lt.mp h4)
             refine RP.mk ⟨?_, ?_, rfl, (Fr.up (by omega)).tr (Fr.up (by omega))⟩
             · rw [e]; rfl
             · rw [e, cOf_row (o := 15) (g := 6) rfl (by omega), cOf_row (o := 15) (g := 5) rfl (by omega)]; rfl)
          | (have e := sGoOn_b (C := cOf I 15) (i := i) (l := left) h3 (Int32.not_le.mpr h4)
             refine RP.mk ⟨?_, ?_, rfl, Fr.up (by omega)⟩
             · rw [e]; rfl
             · rw [e, cOf_row (o := 15) (g := 5) rfl (by omega)]; rfl)
          | (have e := sGoOn_c (C := cOf I 15) (i := i) (l := left) h3
             refine RP.mk ⟨?_, ?_, rfl, Fr.rf⟩
             · rw [e]
             · rw [e])
      · skip
        refine V_go 5 rfl ?_
        try simp only [up2_rd, row2_rd, reduceIte, Nat.reduceEqDiff, hct]
        refine V_iast rfl rfl (Nat.le_of_ble_eq_true rfl) (inb_ofN (by decide) hc0 hcx) ?_
        refine V_go 1 rfl ?_
        try simp only [up2_rd, row2_rd, reduceIte, Nat.reduceEqDiff, hct]
        refine V_iret rfl rfl rfl ?_
        first
          | (have e := sGoOn_a (C := cOf I 15) (i := i) (l := left) h3 (Int32.not_lt.mp h4)
             refine RP.mk ⟨?_, ?_, rfl, (Fr.up (by omega)).tr (Fr.up (by omega))⟩
             · rw [e]; rfl
             · rw [e, cOf_row (o := 15) (g := 6) rfl (by omega), cOf_row (o := 15) (g := 5) rfl (by omega)]; rfl)
          | (have e := sGoOn_b (C := cOf I 15) (i := i) (l := left) h3 (Int32.not_le.mpr h4)
             refine RP.mk ⟨?_, ?_, rfl, Fr.up (by omega)⟩
             · rw [e]; rfl
             · rw [e, cOf_row (o := 15) (g := 5) rfl (by omega)]; rfl)
          | (have e := sGoOn_c (C := cOf I 15) (i := i) (l := left) h3
             refine RP.mk ⟨?_, ?_, rfl, Fr.rf⟩
             · rw [e]
             · rw [e])
    · skip
      refine V_go 1 rfl ?_
      try simp only [up2_rd, row2_rd, reduceIte, Nat.reduceEqDiff, hct]
      refine V_iret rfl rfl rfl ?_
      first
        | (have e := sGoOn_a (C := cOf I 15) (i := i) (l := left) h3 (Int32.not_lt.mp h4)
           refine RP.mk ⟨?_, ?_, rfl, (Fr.up (by omega)).tr (Fr.up (by omega))⟩
           · rw [e]; rfl
           · rw [e, cOf_row (o := 15) (g := 6) rfl (by omega), cOf_row (o := 15) (g := 5) rfl (by omega)]; rfl)
        | (have e := sGoOn_b (C := cOf I 15) (i := i) (l := left) h3 (Int32.not_le.mpr h4)
           refine RP.mk ⟨?_, ?_, rfl, Fr.up (by omega)⟩
           · rw [e]; rfl
           · rw [e, cOf_row (o := 15) (g := 5) rfl (by omega)]; rfl)
        | (have e := sGoOn_c (C := cOf I 15) (i := i) (l := left) h3
           refine RP.mk ⟨?_, ?_, rfl, Fr.rf⟩
           · rw [e]
           · rw [e])
theorem c_goOnWith_23 {i : Nat} {left : Int32} {I : I2} {J : J2} {T : TV} (hC : Cok I 23 T) (hi : i < mC (cOf I 23)) : CT mX0_goOnWith 2 58 58 [.ref 23, .int (i32 i), .int left] I J RF (RP RF (fun r I1 J1 => r = (sGoOn (cOf I 23) i left).2 ∧ cOf I1 23 = (sGoOn (cOf I 23) i left).1 ∧ J1 = J ∧ Fr 23 I I1)) := by
  have ho := hC.1
  obtain ⟨-, hT, hr0, hr1, hn0, hn8, hi0, hi6⟩ := id hC
  obtain ⟨hc6, hcn, hc0, hcx, hct⟩ := mC_lt hi0 hi6 hi
  refine CT_of okX0_goOnWith (Nat.le_of_ble_eq_true rfl) ?_
  show V _ _ _ _ _ _ [(0, _), (1, _), (2, _)] _ _ _ _ _
  refine V_go 2 rfl ?_
  try simp only [up2_rd, row2_rd, reduceIte, Nat.reduceEqDiff, hct]
  refine cVI (mt' := mX0_hasItem) rfl kX0_65 fX0_hasItem rfl rfl rfl (Nat.le_of_ble_eq_true rfl) (Nat.le_of_ble_eq_true rfl) (Nat.le_of_ble_eq_true rfl) (Nat.le_of_ble_eq_true rfl) (Nat.le_refl _) (c_hasItem ho) ?_
  refine V_if_eq rfl (fun h2 => ?_) (fun h2 => ?_)
  · skip
    exfalso
    grind [b2i]
  · skip
    refine V_go 3 rfl ?_
    try simp only [up2_rd, row2_rd, reduceIte, Nat.reduceEqDiff, hct]
    refine V_iald rfl rfl (Nat.le_of_ble_eq_true rfl) (inb_ofN (by decide) hc0 hcx) ?_
    try simp only [up2_rd, row2_rd, reduceIte, Nat.reduceEqDiff, hct]
    refine V_go 1 rfl ?_
    try simp only [up2_rd, row2_rd, reduceIte, Nat.reduceEqDiff, hct]
    refine V_icmp_eq rfl (fun h3 => ?_) (fun h3 => ?_)
    · skip
      refine V_go 4 rfl ?_
      try simp only [up2_rd, row2_rd, reduceIte, Nat.reduceEqDiff, hct]
      refine V_iald rfl rfl (Nat.le_of_ble_eq_true rfl) (inb_ofN (by decide) hc0 hcx) ?_
      try simp only [up2_rd, row2_rd, reduceIte, Nat.reduceEqDiff, hct]
      refine V_go 3 rfl ?_
      try simp only [up2_rd, row2_rd, reduceIte, Nat.reduceEqDiff, hct]
      refine V_iald rfl rfl (Nat.le_of_ble_eq_true rfl) (inb_ofN (by decide) hc0 hcx) ?_
      try simp only [up2_rd, row2_rd, reduceIte, Nat.reduceEqDiff, hct]
      refine V_go 1 rfl ?_
      try simp only [up2_rd, row2_rd, reduceIte, Nat.reduceEqDiff, hct]
      refine V_mmin (wl1 := 666) (wst := 385) (wi1 := 119) (wc1 := 386) rfl (by decide +kernel) (by decide +kernel) (by decide +kernel) (by decide +kernel) (Nat.le_of_ble_eq_true rfl) (Nat.le_of_ble_eq_true rfl) ?_
      try simp only [up2_rd, row2_rd, reduceIte, Nat.reduceEqDiff, hct]
      refine V_go 5 rfl ?_
      try simp only [up2_rd, row2_rd, reduceIte, Nat.reduceEqDiff, hct]
      refine V_iald rfl rfl (Nat.le_of_ble_eq_true rfl) (inb_ofN (by decide) hc0 hcx) ?_
      try simp only [up2_rd, row2_rd, reduceIte, Nat.reduceEqDiff, hct]
      refine V_go 2 rfl ?_
      try simp only [up2_rd, row2_rd, reduceIte, Nat.reduceEqDiff, hct]
      refine V_iast rfl rfl (Nat.le_of_ble_eq_true rfl) (inb_ofN (by decide) hc0 hcx) ?_
      refine V_go 3 rfl ?_
      try simp only [up2_rd, row2_rd, reduceIte, Nat.reduceEqDiff, hct]
      refine V_iald rfl rfl (Nat.le_of_ble_eq_true rfl) (inb_ofN (by decide) hc0 hcx) ?_
      try simp only [up2_rd, row2_rd, reduceIte, Nat.reduceEqDiff, hct]
      refine V_go 3 rfl ?_
      try simp only [up2_rd, row2_rd, reduceIte, Nat.reduceEqDiff, hct]
      refine V_iald rfl rfl (Nat.le_of_ble_eq_true rfl) (inb_ofN (by decide) hc0 hcx) ?_
      try simp only [up2_rd, row2_rd, reduceIte, Nat.reduceEqDiff, hct]
      refine V_icmp_lt rfl (fun h4 => ?_) (fun h4 => ?_)
      · skip
        refine V_go 1 rfl ?_
        try simp only [up2_rd, row2_rd, reduceIte, Nat.reduceEqDiff, hct]
        refine V_iret rfl rfl rfl ?_
        first
          | (have e := sGoOn_a (C := cOf I 23) (i := i) (l := left) h3 (Int32.not_lt.mp h4)
             refine RP.mk ⟨?_, ?_, rfl, (Fr.up (by omega)).tr (Fr.up (by omega))⟩
             · rw [e]; rfl
             · rw [e, cOf_row (o := 23) (g := 6) rfl (by omega), cOf_row (o := 23) (g := 5) rfl (by omega)]; rfl)
          | (have e := sGoOn_b (C := cOf I 23) (i := i) (l := left) h3 (Int32.not_le.mpr h4)
             refine RP.mk ⟨?_, ?_, rfl, Fr.up (by omega)⟩
             · rw [e]; rfl
             · rw [e, cOf_row (o := 23) (g := 5) rfl (by omega)]; rfl)
          | (have e := sGoOn_c (C := cOf I 23) (i := i) (l := left) h3
             refine RP.mk ⟨?_, ?_, rfl, Fr.rf⟩
             · rw [e]
             · rw [e])
      · skip
        refine V_go 5 rfl ?_
        try simp only [up2_rd, row2_rd, reduceIte, Nat.reduceEqDiff, hct]
        refine V_iast rfl rfl (Nat.le_of_ble_eq_true rfl) (inb_ofN (by decide) hc0 hcx) ?_
        refine V_go 1 rfl ?_
        try simp only [up2_rd, row2_rd, reduceIte, Nat.reduceEqDiff, hct]
        refine V_iret rfl rfl rfl ?_
        first
          | (have e := sGoOn_a (C := cOf I 23) (i := i) (l := left) h3 (Int32.not_lt.mp h4)
             refine RP.mk ⟨?_, ?_, rfl, (Fr.up (by omega)).tr (Fr.up (by omega))⟩
             · rw [e]; rfl
             · rw [e, cOf_row (o := 23) (g := 6) rfl (by omega), cOf_row (o := 23) (g := 5) rfl (by omega)]; rfl)
          | (have e := sGoOn_b (C := cOf I 23) (i := i) (l := left) h3 (Int32.not_le.mpr h4)
             refine RP.mk ⟨?_, ?_, rfl, Fr.up (by omega)⟩
             · rw [e]; rfl
             · rw [e, cOf_row (o := 23) (g := 5) rfl (by omega)]; rfl)
          | (have e := sGoOn_c (C := cOf I 23) (i := i) (l := left) h3
             refine RP.mk ⟨?_, ?_, rfl, Fr.rf⟩
             · rw [e]
             · rw [e])
    · skip
      refine V_go 1 rfl ?_
      try simp only [up2_rd, row2_rd, reduceIte, Nat.reduceEqDiff, hct]
      refine V_iret rfl rfl rfl ?_
      first
        | (have e := sGoOn_a (C := cOf I 23) (i := i) (l := left) h3 (Int32.not_lt.mp h4)
           refine RP.mk ⟨?_, ?_, rfl, (Fr.up (by omega)).tr (Fr.up (by omega))⟩
           · rw [e]; rfl
           · rw [e, cOf_row (o := 23) (g := 6) rfl (by omega), cOf_row (o := 23) (g := 5) rfl (by omega)]; rfl)
        | (have e := sGoOn_b (C := cOf I 23) (i := i) (l := left) h3 (Int32.not_le.mpr h4)
           refine RP.mk ⟨?_, ?_, rfl, Fr.up (by omega)⟩
           · rw [e]; rfl
           · rw [e, cOf_row (o := 23) (g := 5) rfl (by omega)]; rfl)
        | (have e := sGoOn_c (C := cOf I 23) (i := i) (l := left) h3
           refine RP.mk ⟨?_, ?_, rfl, Fr.rf⟩
           · rw [e]
           · rw [e])
theorem c_goOnWith {o : Nat} {i : Nat} {left : Int32} {I : I2} {J : J2} {T : TV} (hC : Cok I o T) (hi : i < mC (cOf I o)) : CT mX0_goOnWith 2 58 58 [.ref o, .int (i32 i), .int left] I J RF (RP RF (fun r I1 J1 => r = (sGoOn (cOf I o) i left).2 ∧ cOf I1 o = (sGoOn (cOf I o) i left).1 ∧ J1 = J ∧ Fr o I I1)) := by
  rcases hC.1 with rfl | rfl | rfl
  · exact c_goOnWith_7 hC hi
  · exact c_goOnWith_15 hC hi
  · exact c_goOnWith_23 hC hi
end
section
theorem cOf_0 {I I1 : I2} {o : Nat} (h : cOf I1 o 0 = cOf I o 0) : I1 o 2 = I o 2 ∧ I1 o 3 = I o 3 ∧ I1 o 4 = I o 4 ∧ I1 o 5 = I o 5 ∧ I1 o 9 = I o 9 := ⟨congrFun h 0, congrFun h 1, congrFun h 2, congrFun h 3, congrFun h 4⟩
theorem c_hold_7 {I : I2} {J : J2} {T : TV} (hC : Cok I 7 T) : CT mX0_hold 7 58 58 [.ref 7] I J RF (RP RF (fun r I1 J1 => r = (sHold T (cOf I 7)).2 ∧ cOf I1 7 = (sHold T (cOf I 7)).1 ∧ J1 = J ∧ Fr 7 I I1)) := by
  have ho := hC.1
  obtain ⟨-, hT, hr0, hr1, hn0, hn8, hi0, hi6⟩ := id hC
  obtain ⟨e9, hM6⟩ := mC_i hi0 hi6
  refine CT_of okX0_hold (Nat.le_of_ble_eq_true rfl) ?_
  show V _ _ _ _ _ _ [(0, _)] _ _ _ _ _
  have key : ∀ n, Hid (∀ (i : Nat) (I1 : I2), i + n = mC (cOf I 7) → (cOf I1 7 = (sHoldN (cOf I 7) (sLeft T (cOf I 7)) i).1 ∧ Fr 7 I I1) → V mX0_hold none 7 58 (RP RF (fun r I1 J1 => r = (sHold T (cOf I 7)).2 ∧ cOf I1 7 = (sHold T (cOf I 7)).1 ∧ J1 = J ∧ Fr 7 I I1)) 7 [(0, .ref 7), (1, .int (sHoldN (cOf I 7) (sLeft T (cOf I 7)) i).2), (2, .int (i32 i))] [] 58 I1 J RF) := by
    intro n
    induction n with
    | zero =>
      unfold Hid
      intro i I1 hi ⟨hs, hq⟩
      have h00 : cOf I1 7 0 = cOf I 7 0 := by rw [hs]; exact sHoldN_0 _ _ _
      obtain ⟨f0, -, -, -, f9⟩ := cOf_0 h00
      refine V_go 3 rfl ?_
      refine V_icmp_ge rfl (fun h1 => ?_) (fun h1 => ?_)
      · skip
        refine V_go 7 rfl ?_
        refine V_iret rfl rfl rfl ?_
        refine RP.mk ⟨?_, ?_, rfl, hq.tr (Fr.up (by omega))⟩
        · rw [show i = mC (cOf I 7) from hi]; rfl
        · rw [cOf_fld (o := 7) (f := 2) (by omega), hs, f0, show i = mC (cOf I 7) from hi]; rfl
      · skip
        exfalso
        rw [f9, e9] at h1
        exact h1 (lp_stop hi)
    | succ n ih =>
      unfold Hid
      intro i I1 hi ⟨hs, hq⟩
      have h00 : cOf I1 7 0 = cOf I 7 0 := by rw [hs]; exact sHoldN_0 _ _ _
      obtain ⟨f0, -, -, -, f9⟩ := cOf_0 h00
      refine V_go 3 rfl ?_
      refine V_icmp_ge rfl (fun h1 => ?_) (fun h1 => ?_)
      · skip
        exfalso
        rw [f9, e9] at h1
        exact lp_more (by omega) (by omega) h1
      · skip
        refine V_go 4 rfl ?_
        refine cVP (mt' := mX0_goOnWith) rfl kX0_139 fX0_goOnWith rfl rfl rfl (Nat.le_of_ble_eq_true rfl) (Nat.le_of_ble_eq_true rfl) (Nat.le_of_ble_eq_true rfl) (Nat.le_of_ble_eq_true rfl) (Nat.le_refl _) (c_goOnWith (i := i) (hC.fr hq h00) (by rw [hs]; show i < ((sHoldN (cOf I 7) (sLeft T (cOf I 7)) i).1 0 4).toNatClampNeg; rw [sHoldN_0]; show i < mC (cOf I 7); omega)) ?_
        intro r2 Ir2 Jr2 h2
        obtain ⟨hv, hc2, rfl, hq2⟩ := h2
        refine V_go 4 rfl ?_
        refine V.st (I' := Ir2) (L' := [(0, .ref 7), (1, .int (sHoldN (cOf I 7) (sLeft T (cOf I 7)) (i + 1)).2), (2, .int (i32 (i + 1)))]) (ih.un (i + 1) Ir2 (by omega) ⟨?_, hq.tr hq2⟩) rfl ?_
        · rw [hc2, hs]; rfl
        · rw [i32_s, hv, hs]
          simp [sHoldN]
  refine V_go 1 rfl ?_
  refine cVP (mt' := mX0_minutesLeft) rfl kX0_136 fX0_minutesLeft rfl rfl rfl (Nat.le_of_ble_eq_true rfl) (Nat.le_of_ble_eq_true rfl) (Nat.le_of_ble_eq_true rfl) (Nat.le_of_ble_eq_true rfl) (Nat.le_refl _) (c_minutesLeft hC) ?_
  intro r1 Ir1 Jr1 h1
  obtain ⟨rfl, rfl, hq⟩ := h1
  refine V_go 3 rfl ?_
  exact (key _).un 0 Ir1 (Nat.zero_add _) ⟨cOf_sq ho hq, hq.fr⟩
theorem c_hold_15 {I : I2} {J : J2} {T : TV} (hC : Cok I 15 T) : CT mX0_hold 7 58 58 [.ref 15] I J RF (RP RF (fun r I1 J1 => r = (sHold T (cOf I 15)).2 ∧ cOf I1 15 = (sHold T (cOf I 15)).1 ∧ J1 = J ∧ Fr 15 I I1)) := by
  have ho := hC.1
  obtain ⟨-, hT, hr0, hr1, hn0, hn8, hi0, hi6⟩ := id hC
  obtain ⟨e9, hM6⟩ := mC_i hi0 hi6
  refine CT_of okX0_hold (Nat.le_of_ble_eq_true rfl) ?_
  show V _ _ _ _ _ _ [(0, _)] _ _ _ _ _
  have key : ∀ n, Hid (∀ (i : Nat) (I1 : I2), i + n = mC (cOf I 15) → (cOf I1 15 = (sHoldN (cOf I 15) (sLeft T (cOf I 15)) i).1 ∧ Fr 15 I I1) → V mX0_hold none 7 58 (RP RF (fun r I1 J1 => r = (sHold T (cOf I 15)).2 ∧ cOf I1 15 = (sHold T (cOf I 15)).1 ∧ J1 = J ∧ Fr 15 I I1)) 7 [(0, .ref 15), (1, .int (sHoldN (cOf I 15) (sLeft T (cOf I 15)) i).2), (2, .int (i32 i))] [] 58 I1 J RF) := by
    intro n
    induction n with
    | zero =>
      unfold Hid
      intro i I1 hi ⟨hs, hq⟩
      have h00 : cOf I1 15 0 = cOf I 15 0 := by rw [hs]; exact sHoldN_0 _ _ _
      obtain ⟨f0, -, -, -, f9⟩ := cOf_0 h00
      refine V_go 3 rfl ?_
      refine V_icmp_ge rfl (fun h1 => ?_) (fun h1 => ?_)
      · skip
        refine V_go 7 rfl ?_
        refine V_iret rfl rfl rfl ?_
        refine RP.mk ⟨?_, ?_, rfl, hq.tr (Fr.up (by omega))⟩
        · rw [show i = mC (cOf I 15) from hi]; rfl
        · rw [cOf_fld (o := 15) (f := 2) (by omega), hs, f0, show i = mC (cOf I 15) from hi]; rfl
      · skip
        exfalso
        rw [f9, e9] at h1
        exact h1 (lp_stop hi)
    | succ n ih =>
      unfold Hid
      intro i I1 hi ⟨hs, hq⟩
      have h00 : cOf I1 15 0 = cOf I 15 0 := by rw [hs]; exact sHoldN_0 _ _ _
      obtain ⟨f0, -, -, -, f9⟩ := cOf_0 h00
      refine V_go 3 rfl ?_
      refine V_icmp_ge rfl (fun h1 => ?_) (fun h1 => ?_)
      · skip
        exfalso
        rw [f9, e9] at h1
        exact lp_more (by omega) (by omega) h1
      · skip
        refine V_go 4 rfl ?_
        refine cVP (mt' := mX0_goOnWith) rfl kX0_139 fX0_goOnWith rfl rfl rfl (Nat.le_of_ble_eq_true rfl) (Nat.le_of_ble_eq_true rfl) (Nat.le_of_ble_eq_true rfl) (Nat.le_of_ble_eq_true rfl) (Nat.le_refl _) (c_goOnWith (i := i) (hC.fr hq h00) (by rw [hs]; show i < ((sHoldN (cOf I 15) (sLeft T (cOf I 15)) i).1 0 4).toNatClampNeg; rw [sHoldN_0]; show i < mC (cOf I 15); omega)) ?_
        intro r2 Ir2 Jr2 h2
        obtain ⟨hv, hc2, rfl, hq2⟩ := h2
        refine V_go 4 rfl ?_
        refine V.st (I' := Ir2) (L' := [(0, .ref 15), (1, .int (sHoldN (cOf I 15) (sLeft T (cOf I 15)) (i + 1)).2), (2, .int (i32 (i + 1)))]) (ih.un (i + 1) Ir2 (by omega) ⟨?_, hq.tr hq2⟩) rfl ?_
        · rw [hc2, hs]; rfl
        · rw [i32_s, hv, hs]
          simp [sHoldN]
  refine V_go 1 rfl ?_
  refine cVP (mt' := mX0_minutesLeft) rfl kX0_136 fX0_minutesLeft rfl rfl rfl (Nat.le_of_ble_eq_true rfl) (Nat.le_of_ble_eq_true rfl) (Nat.le_of_ble_eq_true rfl) (Nat.le_of_ble_eq_true rfl) (Nat.le_refl _) (c_minutesLeft hC) ?_
  intro r1 Ir1 Jr1 h1
  obtain ⟨rfl, rfl, hq⟩ := h1
  refine V_go 3 rfl ?_
  exact (key _).un 0 Ir1 (Nat.zero_add _) ⟨cOf_sq ho hq, hq.fr⟩
theorem c_hold_23 {I : I2} {J : J2} {T : TV} (hC : Cok I 23 T) : CT mX0_hold 7 58 58 [.ref 23] I J RF (RP RF (fun r I1 J1 => r = (sHold T (cOf I 23)).2 ∧ cOf I1 23 = (sHold T (cOf I 23)).1 ∧ J1 = J ∧ Fr 23 I I1)) := by
  have ho := hC.1
  obtain ⟨-, hT, hr0, hr1, hn0, hn8, hi0, hi6⟩ := id hC
  obtain ⟨e9, hM6⟩ := mC_i hi0 hi6
  refine CT_of okX0_hold (Nat.le_of_ble_eq_true rfl) ?_
  show V _ _ _ _ _ _ [(0, _)] _ _ _ _ _
  have key : ∀ n, Hid (∀ (i : Nat) (I1 : I2), i + n = mC (cOf I 23) → (cOf I1 23 = (sHoldN (cOf I 23) (sLeft T (cOf I 23)) i).1 ∧ Fr 23 I I1) → V mX0_hold none 7 58 (RP RF (fun r I1 J1 => r = (sHold T (cOf I 23)).2 ∧ cOf I1 23 = (sHold T (cOf I 23)).1 ∧ J1 = J ∧ Fr 23 I I1)) 7 [(0, .ref 23), (1, .int (sHoldN (cOf I 23) (sLeft T (cOf I 23)) i).2), (2, .int (i32 i))] [] 58 I1 J RF) := by
    intro n
    induction n with
    | zero =>
      unfold Hid
      intro i I1 hi ⟨hs, hq⟩
      have h00 : cOf I1 23 0 = cOf I 23 0 := by rw [hs]; exact sHoldN_0 _ _ _
      obtain ⟨f0, -, -, -, f9⟩ := cOf_0 h00
      refine V_go 3 rfl ?_
      refine V_icmp_ge rfl (fun h1 => ?_) (fun h1 => ?_)
      · skip
        refine V_go 7 rfl ?_
        refine V_iret rfl rfl rfl ?_
        refine RP.mk ⟨?_, ?_, rfl, hq.tr (Fr.up (by omega))⟩
        · rw [show i = mC (cOf I 23) from hi]; rfl
        · rw [cOf_fld (o := 23) (f := 2) (by omega), hs, f0, show i = mC (cOf I 23) from hi]; rfl
      · skip
        exfalso
        rw [f9, e9] at h1
        exact h1 (lp_stop hi)
    | succ n ih =>
      unfold Hid
      intro i I1 hi ⟨hs, hq⟩
      have h00 : cOf I1 23 0 = cOf I 23 0 := by rw [hs]; exact sHoldN_0 _ _ _
      obtain ⟨f0, -, -, -, f9⟩ := cOf_0 h00
      refine V_go 3 rfl ?_
      refine V_icmp_ge rfl (fun h1 => ?_) (fun h1 => ?_)
      · skip
        exfalso
        rw [f9, e9] at h1
        exact lp_more (by omega) (by omega) h1
      · skip
        refine V_go 4 rfl ?_
        refine cVP (mt' := mX0_goOnWith) rfl kX0_139 fX0_goOnWith rfl rfl rfl (Nat.le_of_ble_eq_true rfl) (Nat.le_of_ble_eq_true rfl) (Nat.le_of_ble_eq_true rfl) (Nat.le_of_ble_eq_true rfl) (Nat.le_refl _) (c_goOnWith (i := i) (hC.fr hq h00) (by rw [hs]; show i < ((sHoldN (cOf I 23) (sLeft T (cOf I 23)) i).1 0 4).toNatClampNeg; rw [sHoldN_0]; show i < mC (cOf I 23); omega)) ?_
        intro r2 Ir2 Jr2 h2
        obtain ⟨hv, hc2, rfl, hq2⟩ := h2
        refine V_go 4 rfl ?_
        refine V.st (I' := Ir2) (L' := [(0, .ref 23), (1, .int (sHoldN (cOf I 23) (sLeft T (cOf I 23)) (i + 1)).2), (2, .int (i32 (i + 1)))]) (ih.un (i + 1) Ir2 (by omega) ⟨?_, hq.tr hq2⟩) rfl ?_
        · rw [hc2, hs]; rfl
        · rw [i32_s, hv, hs]
          simp [sHoldN]
  refine V_go 1 rfl ?_
  refine cVP (mt' := mX0_minutesLeft) rfl kX0_136 fX0_minutesLeft rfl rfl rfl (Nat.le_of_ble_eq_true rfl) (Nat.le_of_ble_eq_true rfl) (Nat.le_of_ble_eq_true rfl) (Nat.le_of_ble_eq_true rfl) (Nat.le_refl _) (c_minutesLeft hC) ?_
  intro r1 Ir1 Jr1 h1
  obtain ⟨rfl, rfl, hq⟩ := h1
  refine V_go 3 rfl ?_
  exact (key _).un 0 Ir1 (Nat.zero_add _) ⟨cOf_sq ho hq, hq.fr⟩
theorem c_hold {o : Nat} {I : I2} {J : J2} {T : TV} (hC : Cok I o T) : CT mX0_hold 7 58 58 [.ref o] I J RF (RP RF (fun r I1 J1 => r = (sHold T (cOf I o)).2 ∧ cOf I1 o = (sHold T (cOf I o)).1 ∧ J1 = J ∧ Fr o I I1)) := by
  rcases hC.1 with rfl | rfl | rfl
  · exact c_hold_7 hC
  · exact c_hold_15 hC
  · exact c_hold_23 hC
theorem c_itemsDone_7 {I : I2} {J : J2} {T : TV} (hC : Cok I 7 T) : CT mX0_itemsDone 3 58 58 [.ref 7] I J RF (RI RF (sCntD (cOf I 7) (mC (cOf I 7))) I J) := by
  have ho := hC.1
  obtain ⟨-, hT, hr0, hr1, hn0, hn8, hi0, hi6⟩ := id hC
  obtain ⟨e9, hM6⟩ := mC_i hi0 hi6
  refine CT_of okX0_itemsDone (Nat.le_of_ble_eq_true rfl) ?_
  show V _ _ _ _ _ _ [(0, _)] _ _ _ _ _
  have key : ∀ n, Hid (∀ (i : Nat), i + n = mC (cOf I 7) → True → V mX0_itemsDone none 3 58 (RI RF (sCntD (cOf I 7) (mC (cOf I 7))) I J) 4 [(0, .ref 7), (1, .int (sCntD (cOf I 7) i)), (2, .int (i32 i))] [] 58 I J RF) := by
    intro n
    induction n with
    | zero =>
      unfold Hid
      intro i  hi _
      refine V_go 3 rfl ?_
      refine V_icmp_ge rfl (fun h1 => ?_) (fun h1 => ?_)
      · skip
        refine V_go 1 rfl ?_
        refine V_iret rfl rfl rfl ?_
        exact RI.mk (by rw [show i = mC (cOf I 7) from hi])
      · skip
        exfalso
        rw [e9] at h1
        exact h1 (lp_stop hi)
    | succ n ih =>
      unfold Hid
      intro i  hi _
      refine V_go 3 rfl ?_
      refine V_icmp_ge rfl (fun h1 => ?_) (fun h1 => ?_)
      · skip
        exfalso
        rw [e9] at h1
        exact lp_more (by omega) (by omega) h1
      · skip
        refine V_go 3 rfl ?_
        refine cVI (mt' := mX0_doneAt) rfl kX0_68 fX0_doneAt rfl rfl rfl (Nat.le_of_ble_eq_true rfl) (Nat.le_of_ble_eq_true rfl) (Nat.le_of_ble_eq_true rfl) (Nat.le_of_ble_eq_true rfl) (Nat.le_refl _) (c_doneAtR ho (by rw [e9]; grind [i32_ti]) (by omega)) ?_
        refine V_go 1 rfl ?_
        refine V_icmp_ne rfl (fun h3 => ?_) (fun h3 => ?_)
        · skip
          refine V_go 5 rfl ?_
          refine V.st (I' := I) (L' := [(0, .ref 7), (1, .int (sCntD (cOf I 7) (i + 1))), (2, .int (i32 (i + 1)))]) (ih.un (i + 1) (by omega) trivial) rfl ?_
          rw [i32_s]
          first
            | (rw [sCntD, if_pos (by simp only [cOf]; assumption)]; simp)
            | (rw [sCntD, if_neg (by simp only [cOf]; assumption)]; simp)
        · skip
          refine V_go 6 rfl ?_
          refine V.st (I' := I) (L' := [(0, .ref 7), (1, .int (sCntD (cOf I 7) (i + 1))), (2, .int (i32 (i + 1)))]) (ih.un (i + 1) (by omega) trivial) rfl ?_
          rw [i32_s]
          first
            | (rw [sCntD, if_pos (by simp only [cOf]; assumption)]; simp)
            | (rw [sCntD, if_neg (by simp only [cOf]; assumption)]; simp)
  refine V_go 4 rfl ?_
  exact (key _).un 0 (Nat.zero_add _) trivial
theorem c_itemsDone_15 {I : I2} {J : J2} {T : TV} (hC : Cok I 15 T) : CT mX0_itemsDone 3 58 58 [.ref 15] I J RF (RI RF (sCntD (cOf I 15) (mC (cOf I 15))) I J) := by
  have ho := hC.1
  obtain ⟨-, hT, hr0, hr1, hn0, hn8, hi0, hi6⟩ := id hC
  obtain ⟨e9, hM6⟩ := mC_i hi0 hi6
  refine CT_of okX0_itemsDone (Nat.le_of_ble_eq_true rfl) ?_
  show V _ _ _ _ _ _ [(0, _)] _ _ _ _ _
  have key : ∀ n, Hid (∀ (i : Nat), i + n = mC (cOf I 15) → True → V mX0_itemsDone none 3 58 (RI RF (sCntD (cOf I 15) (mC (cOf I 15))) I J) 4 [(0, .ref 15), (1, .int (sCntD (cOf I 15) i)), (2, .int (i32 i))] [] 58 I J RF) := by
    intro n
    induction n with
    | zero =>
      unfold Hid
      intro i  hi _
      refine V_go 3 rfl ?_
      refine V_icmp_ge rfl (fun h1 => ?_) (fun h1 => ?_)
      · skip
        refine V_go 1 rfl ?_
        refine V_iret rfl rfl rfl ?_
        exact RI.mk (by rw [show i = mC (cOf I 15) from hi])
      · skip
        exfalso
        rw [e9] at h1
        exact h1 (lp_stop hi)
    | succ n ih =>
      unfold Hid
      intro i  hi _
      refine V_go 3 rfl ?_
      refine V_icmp_ge rfl (fun h1 => ?_) (fun h1 => ?_)
      · skip
        exfalso
        rw [e9] at h1
        exact lp_more (by omega) (by omega) h1
      · skip
        refine V_go 3 rfl ?_
        refine cVI (mt' := mX0_doneAt) rfl kX0_68 fX0_doneAt rfl rfl rfl (Nat.le_of_ble_eq_true rfl) (Nat.le_of_ble_eq_true rfl) (Nat.le_of_ble_eq_true rfl) (Nat.le_of_ble_eq_true rfl) (Nat.le_refl _) (c_doneAtR ho (by rw [e9]; grind [i32_ti]) (by omega)) ?_
        refine V_go 1 rfl ?_
        refine V_icmp_ne rfl (fun h3 => ?_) (fun h3 => ?_)
        · skip
          refine V_go 5 rfl ?_
          refine V.st (I' := I) (L' := [(0, .ref 15), (1, .int (sCntD (cOf I 15) (i + 1))), (2, .int (i32 (i + 1)))]) (ih.un (i + 1) (by omega) trivial) rfl ?_
          rw [i32_s]
          first
            | (rw [sCntD, if_pos (by simp only [cOf]; assumption)]; simp)
            | (rw [sCntD, if_neg (by simp only [cOf]; assumption)]; simp)
        · skip
          refine V_go 6 rfl ?_
          refine V.st (I' := I) (L' := [(0, .ref 15), (1, .int (sCntD (cOf I 15) (i + 1))), (2, .int (i32 (i + 1)))]) (ih.un (i + 1) (by omega) trivial) rfl ?_
          rw [i32_s]
          first
            | (rw [sCntD, if_pos (by simp only [cOf]; assumption)]; simp)
            | (rw [sCntD, if_neg (by simp only [cOf]; assumption)]; simp)
  refine V_go 4 rfl ?_
  exact (key _).un 0 (Nat.zero_add _) trivial
theorem c_itemsDone_23 {I : I2} {J : J2} {T : TV} (hC : Cok I 23 T) : CT mX0_itemsDone 3 58 58 [.ref 23] I J RF (RI RF (sCntD (cOf I 23) (mC (cOf I 23))) I J) := by
  have ho := hC.1
  obtain ⟨-, hT, hr0, hr1, hn0, hn8, hi0, hi6⟩ := id hC
  obtain ⟨e9, hM6⟩ := mC_i hi0 hi6
  refine CT_of okX0_itemsDone (Nat.le_of_ble_eq_true rfl) ?_
  show V _ _ _ _ _ _ [(0, _)] _ _ _ _ _
  have key : ∀ n, Hid (∀ (i : Nat), i + n = mC (cOf I 23) → True → V mX0_itemsDone none 3 58 (RI RF (sCntD (cOf I 23) (mC (cOf I 23))) I J) 4 [(0, .ref 23), (1, .int (sCntD (cOf I 23) i)), (2, .int (i32 i))] [] 58 I J RF) := by
    intro n
    induction n with
    | zero =>
      unfold Hid
      intro i  hi _
      refine V_go 3 rfl ?_
      refine V_icmp_ge rfl (fun h1 => ?_) (fun h1 => ?_)
      · skip
        refine V_go 1 rfl ?_
        refine V_iret rfl rfl rfl ?_
        exact RI.mk (by rw [show i = mC (cOf I 23) from hi])
      · skip
        exfalso
        rw [e9] at h1
        exact h1 (lp_stop hi)
    | succ n ih =>
      unfold Hid
      intro i  hi _
      refine V_go 3 rfl ?_
      refine V_icmp_ge rfl (fun h1 => ?_) (fun h1 => ?_)
      · skip
        exfalso
        rw [e9] at h1
        exact lp_more (by omega) (by omega) h1
      · skip
        refine V_go 3 rfl ?_
        refine cVI (mt' := mX0_doneAt) rfl kX0_68 fX0_doneAt rfl rfl rfl (Nat.le_of_ble_eq_true rfl) (Nat.le_of_ble_eq_true rfl) (Nat.le_of_ble_eq_true rfl) (Nat.le_of_ble_eq_true rfl) (Nat.le_refl _) (c_doneAtR ho (by rw [e9]; grind [i32_ti]) (by omega)) ?_
        refine V_go 1 rfl ?_
        refine V_icmp_ne rfl (fun h3 => ?_) (fun h3 => ?_)
        · skip
          refine V_go 5 rfl ?_
          refine V.st (I' := I) (L' := [(0, .ref 23), (1, .int (sCntD (cOf I 23) (i + 1))), (2, .int (i32 (i + 1)))]) (ih.un (i + 1) (by omega) trivial) rfl ?_
          rw [i32_s]
          first
            | (rw [sCntD, if_pos (by simp only [cOf]; assumption)]; simp)
            | (rw [sCntD, if_neg (by simp only [cOf]; assumption)]; simp)
        · skip
          refine V_go 6 rfl ?_
          refine V.st (I' := I) (L' := [(0, .ref 23), (1, .int (sCntD (cOf I 23) (i + 1))), (2, .int (i32 (i + 1)))]) (ih.un (i + 1) (by omega) trivial) rfl ?_
          rw [i32_s]
          first
            | (rw [sCntD, if_pos (by simp only [cOf]; assumption)]; simp)
            | (rw [sCntD, if_neg (by simp only [cOf]; assumption)]; simp)
  refine V_go 4 rfl ?_
  exact (key _).un 0 (Nat.zero_add _) trivial
theorem c_itemsDone {o : Nat} {I : I2} {J : J2} {T : TV} (hC : Cok I o T) : CT mX0_itemsDone 3 58 58 [.ref o] I J RF (RI RF (sCntD (cOf I o) (mC (cOf I o))) I J) := by
  rcases hC.1 with rfl | rfl | rfl
  · exact c_itemsDone_7 hC
  · exact c_itemsDone_15 hC
  · exact c_itemsDone_23 hC
end
section
/-! councils that are alike as far as they go -/
def Cq (n m : Nat) (C C' : CC) : Prop := (∀ j, j < 5 → C 0 j = C' 0 j) ∧ (∀ g j, 1 ≤ g → g ≤ 3 → j < n → C g j = C' g j) ∧ (∀ g j, 4 ≤ g → g ≤ 6 → j < m → C g j = C' g j)
theorem Cq.rf {n m : Nat} {C : CC} : Cq n m C C := ⟨fun _ _ => rfl, fun _ _ _ _ _ => rfl, fun _ _ _ _ _ => rfl⟩
theorem Cq.sm {n m : Nat} {C C' : CC} (h : Cq n m C C') : Cq n m C' C := ⟨fun j hj => (h.1 j hj).symm, fun g j h1 h2 h3 => (h.2.1 g j h1 h2 h3).symm, fun g j h1 h2 h3 => (h.2.2 g j h1 h2 h3).symm⟩
theorem Cq.tr {n m : Nat} {C C' C2 : CC} (h : Cq n m C C') (h' : Cq n m C' C2) : Cq n m C C2 := ⟨fun j hj => (h.1 j hj).trans (h'.1 j hj), fun g j h1 h2 h3 => (h.2.1 g j h1 h2 h3).trans (h'.2.1 g j h1 h2 h3), fun g j h1 h2 h3 => (h.2.2 g j h1 h2 h3).trans (h'.2.2 g j h1 h2 h3)⟩
theorem Cq.le {n m n' m' : Nat} {C C' : CC} (h : Cq n m C C') (hn : n' ≤ n) (hm : m' ≤ m) : Cq n' m' C C' := ⟨h.1, fun g j h1 h2 h3 => h.2.1 g j h1 h2 (by omega), fun g j h1 h2 h3 => h.2.2 g j h1 h2 (by omega)⟩
theorem Cq.nC {n m : Nat} {C C' : CC} (h : Cq n m C C') : nC C = nC C' := by unfold Jvm.Pilot.CMinuteForTheUnreadLaw_law_r6547_ff54f3.nC; rw [h.1 3 (by omega)]
theorem Cq.mC {n m : Nat} {C C' : CC} (h : Cq n m C C') : mC C = mC C' := by unfold Jvm.Pilot.CMinuteForTheUnreadLaw_law_r6547_ff54f3.mC; rw [h.1 4 (by omega)]
section CQ
variable {T : TV} {C C' : CC} {n m : Nat}
theorem Cq.askT (h : Cq n m C C') {part c ah : Nat} (hc : c < n) : askT T C part c ah = askT T C' part c ah := by
  unfold Jvm.Pilot.CMinuteForTheUnreadLaw_law_r6547_ff54f3.askT
  rw [h.1 2 (by omega), h.1 0 (by omega), h.1 3 (by omega), h.2.1 2 c (by omega) (by omega) hc, h.2.1 3 c (by omega) (by omega) hc]
theorem Cq.sRd (h : Cq n m C C') {c ah : Nat} (hc : c < n) : sRd T C c ah = sRd T C' c ah := by
  unfold Jvm.Pilot.CMinuteForTheUnreadLaw_law_r6547_ff54f3.sRd
  rw [h.askT hc, h.1 0 (by omega), h.2.1 1 c (by omega) (by omega) hc, h.2.1 2 c (by omega) (by omega) hc, h.2.1 3 c (by omega) (by omega) hc]
theorem Cq.sSl (h : Cq n m C C') {c ah : Nat} (hc : c < n) : sSl T C c ah = sSl T C' c ah := by
  unfold Jvm.Pilot.CMinuteForTheUnreadLaw_law_r6547_ff54f3.sSl
  rw [h.askT hc, h.2.1 1 c (by omega) (by omega) hc, h.2.1 2 c (by omega) (by omega) hc]
theorem Cq.sTm (h : Cq n m C C') {c ah : Nat} (hc : c < n) : sTm T C c ah = sTm T C' c ah := by
  unfold Jvm.Pilot.CMinuteForTheUnreadLaw_law_r6547_ff54f3.sTm
  rw [h.askT hc, h.1 0 (by omega), h.2.1 1 c (by omega) (by omega) hc, h.2.1 2 c (by omega) (by omega) hc]
theorem Cq.sLs (h : Cq n m C C') : ∀ i, i ≤ n → sLs T C i = sLs T C' i
  | 0, _ => rfl
  | i + 1, hi => by
    have e := Cq.sLs h i (by omega)
    unfold Jvm.Pilot.CMinuteForTheUnreadLaw_law_r6547_ff54f3.sLs
    rw [e, h.sRd (by omega)]
theorem Cq.sGn (h : Cq n m C C') {p : Nat → Bool} {q : Nat} : ∀ i, i ≤ n → sGn T C p q i = sGn T C' p q i
  | 0, _ => rfl
  | i + 1, hi => by
    have e := Cq.sGn h (p := p) (q := q) i (by omega)
    unfold Jvm.Pilot.CMinuteForTheUnreadLaw_law_r6547_ff54f3.sGn
    rw [e, h.sTm (by omega), h.sSl (by omega)]
theorem Cq.sLst (h : Cq n m C C') (hn : Jvm.Pilot.CMinuteForTheUnreadLaw_law_r6547_ff54f3.nC C ≤ n) : sLst T C = sLst T C' := by
  unfold Jvm.Pilot.CMinuteForTheUnreadLaw_law_r6547_ff54f3.sLst
  rw [h.sLs _ hn, h.nC]
theorem Cq.sGone (h : Cq n m C C') (hn : Jvm.Pilot.CMinuteForTheUnreadLaw_law_r6547_ff54f3.nC C ≤ n) {q : Nat} : sGone T C q = sGone T C' q := by
  unfold Jvm.Pilot.CMinuteForTheUnreadLaw_law_r6547_ff54f3.sGone
  rw [h.sGn _ hn, h.nC]
theorem Cq.sGo (h : Cq n m C C') (hn : Jvm.Pilot.CMinuteForTheUnreadLaw_law_r6547_ff54f3.nC C ≤ n) : sGo T C = sGo T C' := by
  unfold Jvm.Pilot.CMinuteForTheUnreadLaw_law_r6547_ff54f3.sGo
  rw [h.sLst hn, h.sGone hn]
theorem Cq.sLeft (h : Cq n m C C') (hn : Jvm.Pilot.CMinuteForTheUnreadLaw_law_r6547_ff54f3.nC C ≤ n) : sLeft T C = sLeft T C' := by
  unfold Jvm.Pilot.CMinuteForTheUnreadLaw_law_r6547_ff54f3.sLeft
  rw [h.sGo hn, h.1 1 (by omega)]
theorem Cq.up (h : Cq n m C C') {g j : Nat} {v : Int32} : Cq n m (up2 C g j v) (up2 C' g j v) := by
  refine ⟨fun k hk => ?_, fun a k h1 h2 h3 => ?_, fun a k h1 h2 h3 => ?_⟩
  · simp only [up2_rd]; rw [h.1 k hk]
  · simp only [up2_rd]; rw [h.2.1 a k h1 h2 h3]
  · simp only [up2_rd]; rw [h.2.2 a k h1 h2 h3]
theorem Cq.goOn (h : Cq n m C C') {i : Nat} {l : Int32} (hi : i < m) : Cq n m (sGoOn C i l).1 (sGoOn C' i l).1 ∧ (sGoOn C i l).2 = (sGoOn C' i l).2 := by
  have a4 := h.2.2 4 i (by omega) (by omega) hi
  have a5 := h.2.2 5 i (by omega) (by omega) hi
  have a6 := h.2.2 6 i (by omega) (by omega) hi
  have a0 := h.1 0 (by omega)
  have em : sMi C i l = sMi C' i l := by unfold sMi; rw [a4, a5]
  by_cases h1 : C 6 i = -1
  · by_cases h2 : C 4 i ≤ C 5 i + sMi C i l
    · rw [sGoOn_a h1 h2, sGoOn_a (by rw [← a6]; exact h1) (by rw [← a4, ← a5, ← em]; exact h2), em, a0, a5]
      exact ⟨h.up.up, rfl⟩
    · rw [sGoOn_b h1 h2, sGoOn_b (by rw [← a6]; exact h1) (by rw [← a4, ← a5, ← em]; exact h2), em, a5]
      exact ⟨h.up, rfl⟩
  · rw [sGoOn_c h1, sGoOn_c (by rw [← a6]; exact h1)]
    exact ⟨h, rfl⟩
theorem Cq.holdN (h : Cq n m C C') {l : Int32} : ∀ i, i ≤ m → Cq n m (sHoldN C l i).1 (sHoldN C' l i).1 ∧ (sHoldN C l i).2 = (sHoldN C' l i).2
  | 0, _ => ⟨h, rfl⟩
  | i + 1, hi => by
    obtain ⟨e1, e2⟩ := Cq.holdN h (l := l) i (by omega)
    have e3 := e1.goOn (i := i) (l := (sHoldN C' l i).2) (by omega)
    simp only [sHoldN]
    rw [e2, e3.2]
    exact ⟨e3.1, rfl⟩
theorem Cq.hold (h : Cq n m C C') (hn : Jvm.Pilot.CMinuteForTheUnreadLaw_law_r6547_ff54f3.nC C ≤ n) (hm : Jvm.Pilot.CMinuteForTheUnreadLaw_law_r6547_ff54f3.mC C ≤ m) : Cq n m (sHold T C).1 (sHold T C').1 ∧ (sHold T C).2 = (sHold T C').2 := by
  unfold sHold
  rw [h.sLeft hn, ← h.mC, h.1 0 (by omega)]
  have e := h.holdN (l := Jvm.Pilot.CMinuteForTheUnreadLaw_law_r6547_ff54f3.sLeft T C') (Jvm.Pilot.CMinuteForTheUnreadLaw_law_r6547_ff54f3.mC C) hm
  exact ⟨e.1.up, e.2⟩
theorem sHold_0 (T : TV) (C : CC) (j : Nat) (hj : j ≠ 0) : (sHold T C).1 0 j = C 0 j := by
  unfold sHold
  simp only [up2_rd, hj, if_false, sHoldN_0]
  simp
theorem sHold_nC (T : TV) (C : CC) : nC (sHold T C).1 = nC C := by unfold nC; rw [sHold_0 T C 3 (by omega)]
theorem sHold_mC (T : TV) (C : CC) : mC (sHold T C).1 = mC C := by unfold mC; rw [sHold_0 T C 4 (by omega)]
theorem Cq.dW {it : Nat} (hit : it < m) : ∀ (k : Nat) {C C' : CC} (_ : Cq n m C C') (_ : Jvm.Pilot.CMinuteForTheUnreadLaw_law_r6547_ff54f3.nC C ≤ n) (_ : Jvm.Pilot.CMinuteForTheUnreadLaw_law_r6547_ff54f3.mC C ≤ m), Cq n m (sDW T it k C) (sDW T it k C')
  | 0, _, _, h, _, _ => h
  | k + 1, C, C', h, hn, hm => by
    have a6 := h.2.2 6 it (by omega) (by omega) hit
    simp only [sDW]
    rw [a6]
    split
    · exact Cq.dW hit k (h.hold hn hm).1 (by rw [sHold_nC]; exact hn) (by rw [sHold_mC]; exact hm)
    · exact h
theorem Cq.cntD (h : Cq n m C C') : ∀ i, i ≤ m → sCntD C i = sCntD C' i
  | 0, _ => rfl
  | i + 1, hi => by
    have e := Cq.cntD h i (by omega)
    simp only [sCntD]
    rw [e, h.2.2 6 i (by omega) (by omega) (by omega)]
end CQ
end
section
theorem c_become_15_7 {I : I2} {J : J2} : CT mX0_become 2 58 58 [.ref 15, .ref 7] I J RF (RVP RF (fun I1 J1 => J1 = J ∧ Cq 8 6 (cOf I1 15) (cOf I 7) ∧ Fr 15 I I1)) := by
  refine CT_of okX0_become (Nat.le_of_ble_eq_true rfl) ?_
  show V _ _ _ _ _ _ [(0, _), (1, _)] _ _ _ _ _
  refine V_go 27 rfl ?_
  refine V_copy (wl1 := 675) (wn := 677) (ws9 := 676) (wi1 := 125) rfl (by decide +kernel) (by decide +kernel) (by decide +kernel) (by decide +kernel) (Nat.le_of_ble_eq_true rfl) (Nat.le_of_ble_eq_true rfl) rfl rfl (Nat.le_of_ble_eq_true rfl) (Nat.le_of_ble_eq_true rfl) (by decide) (by decide) (by decide) (by decide) (by decide) ?_
  refine V_go 7 rfl ?_
  refine V_copy (wl1 := 675) (wn := 677) (ws9 := 676) (wi1 := 125) rfl (by decide +kernel) (by decide +kernel) (by decide +kernel) (by decide +kernel) (Nat.le_of_ble_eq_true rfl) (Nat.le_of_ble_eq_true rfl) rfl rfl (Nat.le_of_ble_eq_true rfl) (Nat.le_of_ble_eq_true rfl) (by decide) (by decide) (by decide) (by decide) (by decide) ?_
  refine V_go 7 rfl ?_
  refine V_copy (wl1 := 675) (wn := 677) (ws9 := 676) (wi1 := 125) rfl (by decide +kernel) (by decide +kernel) (by decide +kernel) (by decide +kernel) (Nat.le_of_ble_eq_true rfl) (Nat.le_of_ble_eq_true rfl) rfl rfl (Nat.le_of_ble_eq_true rfl) (Nat.le_of_ble_eq_true rfl) (by decide) (by decide) (by decide) (by decide) (by decide) ?_
  refine V_go 7 rfl ?_
  refine V_copy (wl1 := 675) (wn := 677) (ws9 := 676) (wi1 := 125) rfl (by decide +kernel) (by decide +kernel) (by decide +kernel) (by decide +kernel) (Nat.le_of_ble_eq_true rfl) (Nat.le_of_ble_eq_true rfl) rfl rfl (Nat.le_of_ble_eq_true rfl) (Nat.le_of_ble_eq_true rfl) (by decide) (by decide) (by decide) (by decide) (by decide) ?_
  refine V_go 7 rfl ?_
  refine V_copy (wl1 := 675) (wn := 677) (ws9 := 676) (wi1 := 125) rfl (by decide +kernel) (by decide +kernel) (by decide +kernel) (by decide +kernel) (Nat.le_of_ble_eq_true rfl) (Nat.le_of_ble_eq_true rfl) rfl rfl (Nat.le_of_ble_eq_true rfl) (Nat.le_of_ble_eq_true rfl) (by decide) (by decide) (by decide) (by decide) (by decide) ?_
  refine V_go 7 rfl ?_
  refine V_copy (wl1 := 675) (wn := 677) (ws9 := 676) (wi1 := 125) rfl (by decide +kernel) (by decide +kernel) (by decide +kernel) (by decide +kernel) (Nat.le_of_ble_eq_true rfl) (Nat.le_of_ble_eq_true rfl) rfl rfl (Nat.le_of_ble_eq_true rfl) (Nat.le_of_ble_eq_true rfl) (by decide) (by decide) (by decide) (by decide) (by decide) ?_
  refine V_vret rfl rfl rfl ?_
  refine RVP.mk ⟨rfl, ⟨?_, ?_, ?_⟩, ?_⟩
  · intro j hj
    have : j = 0 ∨ j = 1 ∨ j = 2 ∨ j = 3 ∨ j = 4 := by omega
    rcases this with rfl | rfl | rfl | rfl | rfl <;> simp [cOf, up2_rd, row2_rd]
  · intro g j h1 h2 h3
    have : g = 1 ∨ g = 2 ∨ g = 3 := by omega
    rcases this with rfl | rfl | rfl <;> simp [cOf, up2_rd, row2_rd, va_cpy, h3, Int32.toNatClampNeg] <;> (intro h9; exact absurd h3 (Nat.not_lt.mpr h9))
  · intro g j h1 h2 h3
    have : g = 4 ∨ g = 5 ∨ g = 6 := by omega
    rcases this with rfl | rfl | rfl <;> simp [cOf, up2_rd, row2_rd, va_cpy, h3, Int32.toNatClampNeg] <;> (intro h9; exact absurd h3 (Nat.not_lt.mpr h9))
  · intro a h1 h2
    funext j
    simp only [up2_rd, row2_rd]
    simp (disch := omega) only [if_neg]
theorem c_become_23_7 {I : I2} {J : J2} : CT mX0_become 2 58 58 [.ref 23, .ref 7] I J RF (RVP RF (fun I1 J1 => J1 = J ∧ Cq 8 6 (cOf I1 23) (cOf I 7) ∧ Fr 23 I I1)) := by
  refine CT_of okX0_become (Nat.le_of_ble_eq_true rfl) ?_
  show V _ _ _ _ _ _ [(0, _), (1, _)] _ _ _ _ _
  refine V_go 27 rfl ?_
  refine V_copy (wl1 := 675) (wn := 677) (ws9 := 676) (wi1 := 125) rfl (by decide +kernel) (by decide +kernel) (by decide +kernel) (by decide +kernel) (Nat.le_of_ble_eq_true rfl) (Nat.le_of_ble_eq_true rfl) rfl rfl (Nat.le_of_ble_eq_true rfl) (Nat.le_of_ble_eq_true rfl) (by decide) (by decide) (by decide) (by decide) (by decide) ?_
  refine V_go 7 rfl ?_
  refine V_copy (wl1 := 675) (wn := 677) (ws9 := 676) (wi1 := 125) rfl (by decide +kernel) (by decide +kernel) (by decide +kernel) (by decide +kernel) (Nat.le_of_ble_eq_true rfl) (Nat.le_of_ble_eq_true rfl) rfl rfl (Nat.le_of_ble_eq_true rfl) (Nat.le_of_ble_eq_true rfl) (by decide) (by decide) (by decide) (by decide) (by decide) ?_
  refine V_go 7 rfl ?_
  refine V_copy (wl1 := 675) (wn := 677) (ws9 := 676) (wi1 := 125) rfl (by decide +kernel) (by decide +kernel) (by decide +kernel) (by decide +kernel) (Nat.le_of_ble_eq_true rfl) (Nat.le_of_ble_eq_true rfl) rfl rfl (Nat.le_of_ble_eq_true rfl) (Nat.le_of_ble_eq_true rfl) (by decide) (by decide) (by decide) (by decide) (by decide) ?_
  refine V_go 7 rfl ?_
  refine V_copy (wl1 := 675) (wn := 677) (ws9 := 676) (wi1 := 125) rfl (by decide +kernel) (by decide +kernel) (by decide +kernel) (by decide +kernel) (Nat.le_of_ble_eq_true rfl) (Nat.le_of_ble_eq_true rfl) rfl rfl (Nat.le_of_ble_eq_true rfl) (Nat.le_of_ble_eq_true rfl) (by decide) (by decide) (by decide) (by decide) (by decide) ?_
  refine V_go 7 rfl ?_
  refine V_copy (wl1 := 675) (wn := 677) (ws9 := 676) (wi1 := 125) rfl (by decide +kernel) (by decide +kernel) (by decide +kernel) (by decide +kernel) (Nat.le_of_ble_eq_true rfl) (Nat.le_of_ble_eq_true rfl) rfl rfl (Nat.le_of_ble_eq_true rfl) (Nat.le_of_ble_eq_true rfl) (by decide) (by decide) (by decide) (by decide) (by decide) ?_
  refine V_go 7 rfl ?_
  refine V_copy (wl1 := 675) (wn := 677) (ws9 := 676) (wi1 := 125) rfl (by decide +kernel) (by decide +kernel) (by decide +kernel) (by decide +kernel) (Nat.le_of_ble_eq_true rfl) (Nat.le_of_ble_eq_true rfl) rfl rfl (Nat.le_of_ble_eq_true rfl) (Nat.le_of_ble_eq_true rfl) (by decide) (by decide) (by decide) (by decide) (by decide) ?_
  refine V_vret rfl rfl rfl ?_
  refine RVP.mk ⟨rfl, ⟨?_, ?_, ?_⟩, ?_⟩
  · intro j hj
    have : j = 0 ∨ j = 1 ∨ j = 2 ∨ j = 3 ∨ j = 4 := by omega
    rcases this with rfl | rfl | rfl | rfl | rfl <;> simp [cOf, up2_rd, row2_rd]
  · intro g j h1 h2 h3
    have : g = 1 ∨ g = 2 ∨ g = 3 := by omega
    rcases this with rfl | rfl | rfl <;> simp [cOf, up2_rd, row2_rd, va_cpy, h3, Int32.toNatClampNeg] <;> (intro h9; exact absurd h3 (Nat.not_lt.mpr h9))
  · intro g j h1 h2 h3
    have : g = 4 ∨ g = 5 ∨ g = 6 := by omega
    rcases this with rfl | rfl | rfl <;> simp [cOf, up2_rd, row2_rd, va_cpy, h3, Int32.toNatClampNeg] <;> (intro h9; exact absurd h3 (Nat.not_lt.mpr h9))
  · intro a h1 h2
    funext j
    simp only [up2_rd, row2_rd]
    simp (disch := omega) only [if_neg]
theorem c_become_7_23 {I : I2} {J : J2} : CT mX0_become 2 58 58 [.ref 7, .ref 23] I J RF (RVP RF (fun I1 J1 => J1 = J ∧ Cq 8 6 (cOf I1 7) (cOf I 23) ∧ Fr 7 I I1)) := by
  refine CT_of okX0_become (Nat.le_of_ble_eq_true rfl) ?_
  show V _ _ _ _ _ _ [(0, _), (1, _)] _ _ _ _ _
  refine V_go 27 rfl ?_
  refine V_copy (wl1 := 675) (wn := 677) (ws9 := 676) (wi1 := 125) rfl (by decide +kernel) (by decide +kernel) (by decide +kernel) (by decide +kernel) (Nat.le_of_ble_eq_true rfl) (Nat.le_of_ble_eq_true rfl) rfl rfl (Nat.le_of_ble_eq_true rfl) (Nat.le_of_ble_eq_true rfl) (by decide) (by decide) (by decide) (by decide) (by decide) ?_
  refine V_go 7 rfl ?_
  refine V_copy (wl1 := 675) (wn := 677) (ws9 := 676) (wi1 := 125) rfl (by decide +kernel) (by decide +kernel) (by decide +kernel) (by decide +kernel) (Nat.le_of_ble_eq_true rfl) (Nat.le_of_ble_eq_true rfl) rfl rfl (Nat.le_of_ble_eq_true rfl) (Nat.le_of_ble_eq_true rfl) (by decide) (by decide) (by decide) (by decide) (by decide) ?_
  refine V_go 7 rfl ?_
  refine V_copy (wl1 := 675) (wn := 677) (ws9 := 676) (wi1 := 125) rfl (by decide +kernel) (by decide +kernel) (by decide +kernel) (by decide +kernel) (Nat.le_of_ble_eq_true rfl) (Nat.le_of_ble_eq_true rfl) rfl rfl (Nat.le_of_ble_eq_true rfl) (Nat.le_of_ble_eq_true rfl) (by decide) (by decide) (by decide) (by decide) (by decide) ?_
  refine V_go 7 rfl ?_
  refine V_copy (wl1 := 675) (wn := 677) (ws9 := 676) (wi1 := 125) rfl (by decide +kernel) (by decide +kernel) (by decide +kernel) (by decide +kernel) (Nat.le_of_ble_eq_true rfl) (Nat.le_of_ble_eq_true rfl) rfl rfl (Nat.le_of_ble_eq_true rfl) (Nat.le_of_ble_eq_true rfl) (by decide) (by decide) (by decide) (by decide) (by decide) ?_
  refine V_go 7 rfl ?_
  refine V_copy (wl1 := 675) (wn := 677) (ws9 := 676) (wi1 := 125) rfl (by decide +kernel) (by decide +kernel) (by decide +kernel) (by decide +kernel) (Nat.le_of_ble_eq_true rfl) (Nat.le_of_ble_eq_true rfl) rfl rfl (Nat.le_of_ble_eq_true rfl) (Nat.le_of_ble_eq_true rfl) (by decide) (by decide) (by decide) (by decide) (by decide) ?_
  refine V_go 7 rfl ?_
  refine V_copy (wl1 := 675) (wn := 677) (ws9 := 676) (wi1 := 125) rfl (by decide +kernel) (by decide +kernel) (by decide +kernel) (by decide +kernel) (Nat.le_of_ble_eq_true rfl) (Nat.le_of_ble_eq_true rfl) rfl rfl (Nat.le_of_ble_eq_true rfl) (Nat.le_of_ble_eq_true rfl) (by decide) (by decide) (by decide) (by decide) (by decide) ?_
  refine V_vret rfl rfl rfl ?_
  refine RVP.mk ⟨rfl, ⟨?_, ?_, ?_⟩, ?_⟩
  · intro j hj
    have : j = 0 ∨ j = 1 ∨ j = 2 ∨ j = 3 ∨ j = 4 := by omega
    rcases this with rfl | rfl | rfl | rfl | rfl <;> simp [cOf, up2_rd, row2_rd]
  · intro g j h1 h2 h3
    have : g = 1 ∨ g = 2 ∨ g = 3 := by omega
    rcases this with rfl | rfl | rfl <;> simp [cOf, up2_rd, row2_rd, va_cpy, h3, Int32.toNatClampNeg] <;> (intro h9; exact absurd h3 (Nat.not_lt.mpr h9))
  · intro g j h1 h2 h3
    have : g = 4 ∨ g = 5 ∨ g = 6 := by omega
    rcases this with rfl | rfl | rfl <;> simp [cOf, up2_rd, row2_rd, va_cpy, h3, Int32.toNatClampNeg] <;> (intro h9; exact absurd h3 (Nat.not_lt.mpr h9))
  · intro a h1 h2
    funext j
    simp only [up2_rd, row2_rd]
    simp (disch := omega) only [if_neg]
end
section
def sDr (C : CC) (z0 : Int32) : Nat → CC × Int32
  | 0 => (C, z0)
  | i + 1 => (up2 (sDr C z0 i).1 3 i (iushrV ((sDr C z0 i).2 * 1103515245 + 12345) 9 - iushrV ((sDr C z0 i).2 * 1103515245 + 12345) 9 / 100 * 100), (sDr C z0 i).2 * 1103515245 + 12345)
theorem sDr_0 (C : CC) (z : Int32) : ∀ i, (sDr C z i).1 0 = C 0
  | 0 => rfl
  | i + 1 => by
    simp only [sDr]
    rw [up2_ne (by omega), sDr_0 C z i]
theorem Cok.lt {I I1 : I2} {o : Nat} (h : cOf I1 o 0 = cOf I o 0) : nC (cOf I1 o) = nC (cOf I o) ∧ mC (cOf I1 o) = mC (cOf I o) := by
  unfold nC mC
  rw [h]
  exact ⟨rfl, rfl⟩
/-- all scalars but the sitting -/
def Cq0 (C C' : CC) : Prop := ∀ j, j ≠ 0 → C 0 j = C' 0 j
theorem Cq0.rf {C : CC} : Cq0 C C := fun _ _ => rfl
theorem Cok.frq {I I1 : I2} {o : Nat} {T : TV} (h : Cok I o T) (q : Fr o I I1) (e : Cq0 (cOf I1 o) (cOf I o)) : Cok I1 o T := by
  obtain ⟨ho, ⟨h1, h2, h3⟩, h4⟩ := h
  have e1 : I1 1 = I 1 := q 1 (by omega) (by rcases ho with rfl | rfl | rfl <;> omega)
  have e2 : I1 2 = I 2 := q 2 (by omega) (by rcases ho with rfl | rfl | rfl <;> omega)
  have e3 : I1 3 = I 3 := q 3 (by omega) (by rcases ho with rfl | rfl | rfl <;> omega)
  have f2 : I1 o 4 = I o 4 := e 2 (by omega)
  have f3 : I1 o 5 = I o 5 := e 3 (by omega)
  have f4 : I1 o 9 = I o 9 := e 4 (by omega)
  refine ⟨ho, ⟨?_, ?_, ?_⟩, ?_⟩
  · rw [e1]; exact h1
  · rw [e1]; exact h2
  · rw [e1, e2, e3]; exact h3
  · rw [f2, f3, f4, e1]; exact h4
theorem Cq0.nm {C C' : CC} (e : Cq0 C C') : nC C = nC C' ∧ mC C = mC C' := ⟨by unfold nC; rw [e 3 (by omega)], by unfold mC; rw [e 4 (by omega)]⟩
theorem c_doneWithin_7 {it : Nat} {I : I2} {J : J2} {T : TV} (hC : Cok I 7 T) (hi : it < mC (cOf I 7)) : CT mX0_doneWithin 8 58 58 [.ref 7, .int 40, .int (i32 it)] I J RF (RP RF (fun r I2 J2 => r = sDW T it 40 (cOf I 7) 6 it ∧ cOf I2 7 = sDW T it 40 (cOf I 7) ∧ J2 = J ∧ Fr 7 I I2)) := by
  have ho := hC.1
  obtain ⟨-, hT, hr0, hr1, hn0, hn8, hi0, hi6⟩ := id hC
  obtain ⟨e9, hM6⟩ := mC_i hi0 hi6
  refine CT_of okX0_doneWithin (Nat.le_of_ble_eq_true rfl) ?_
  show V _ _ _ _ _ _ [(0, _), (1, _), (2, _)] _ _ _ _ _
  have key : ∀ n, Hid (∀ (i : Nat) (I1 : I2), i + n = 40 → (Cq0 (cOf I1 7) (cOf I 7) ∧ Fr 7 I I1) → V mX0_doneWithin none 8 58 (RP RF (fun r I2 J2 => r = sDW T it n (cOf I1 7) 6 it ∧ cOf I2 7 = sDW T it n (cOf I1 7) ∧ J2 = J ∧ Fr 7 I I2)) 2 [(0, .ref 7), (1, .int 40), (2, .int (i32 it)), (3, .int (i32 i))] [] 58 I1 J RF) := by
    intro n
    induction n with
    | zero =>
      unfold Hid
      intro i I1 hi ⟨hs, hq⟩
      have f9 : I1 7 9 = I 7 9 := hs 4 (by omega)
      refine V_go 2 rfl ?_
      refine V_icmp_ge rfl (fun h1 => ?_) (fun h1 => ?_)
      · skip
        refine V_go 2 rfl ?_
        refine cVI (mt' := mX0_doneAt) rfl kX0_68 fX0_doneAt rfl rfl rfl (Nat.le_of_ble_eq_true rfl) (Nat.le_of_ble_eq_true rfl) (Nat.le_of_ble_eq_true rfl) (Nat.le_of_ble_eq_true rfl) (Nat.le_refl _) (c_doneAtR ho (c := it) (by rw [f9, e9]; grind [i32_ti]) (by omega)) ?_
        refine V_iret rfl rfl rfl ?_
        exact RP.mk ⟨rfl, rfl, rfl, hq⟩
      · skip
        exfalso
        have h9 : i = 40 := hi
        rw [h9] at h1
        exact h1 (by decide)
    | succ n ih =>
      unfold Hid
      intro i I1 hi ⟨hs, hq⟩
      have f9 : I1 7 9 = I 7 9 := hs 4 (by omega)
      refine V_go 2 rfl ?_
      refine V_icmp_ge rfl (fun h1 => ?_) (fun h1 => ?_)
      · skip
        exfalso
        exact lp_more (i := i) (N := 40) (by omega) (by omega) h1
      · skip
        refine V_go 2 rfl ?_
        refine cVI (mt' := mX0_doneAt) rfl kX0_68 fX0_doneAt rfl rfl rfl (Nat.le_of_ble_eq_true rfl) (Nat.le_of_ble_eq_true rfl) (Nat.le_of_ble_eq_true rfl) (Nat.le_of_ble_eq_true rfl) (Nat.le_refl _) (c_doneAtR ho (c := it) (by rw [f9, e9]; grind [i32_ti]) (by omega)) ?_
        refine V_go 1 rfl ?_
        refine V_icmp_ne rfl (fun h3 => ?_) (fun h3 => ?_)
        · skip
          refine V_go 2 rfl ?_
          refine cVI (mt' := mX0_doneAt) rfl kX0_68 fX0_doneAt rfl rfl rfl (Nat.le_of_ble_eq_true rfl) (Nat.le_of_ble_eq_true rfl) (Nat.le_of_ble_eq_true rfl) (Nat.le_of_ble_eq_true rfl) (Nat.le_refl _) (c_doneAtR ho (c := it) (by rw [f9, e9]; grind [i32_ti]) (by omega)) ?_
          refine V_iret rfl rfl rfl ?_
          have e : sDW T it (n + 1) (cOf I1 7) = cOf I1 7 := by
            simp only [sDW]
            rw [if_neg (by simp only [cOf, Nat.reduceAdd]; assumption)]
          rw [e]
          exact RP.mk ⟨rfl, rfl, rfl, hq⟩
        · skip
          refine V_go 1 rfl ?_
          refine cVP (mt' := mX0_hold) rfl kX0_145 fX0_hold rfl rfl rfl (Nat.le_of_ble_eq_true rfl) (Nat.le_of_ble_eq_true rfl) (Nat.le_of_ble_eq_true rfl) (Nat.le_of_ble_eq_true rfl) (Nat.le_refl _) (c_hold (hC.frq hq hs)) ?_
          intro r5 Ir5 Jr5 h5
          obtain ⟨hv, hc2, rfl, hq2⟩ := h5
          refine V_go 3 rfl ?_
          have e : sDW T it (n + 1) (cOf I1 7) = sDW T it n (cOf Ir5 7) := by
            rw [hc2]
            simp only [sDW]
            rw [if_pos (by simp only [cOf, Nat.reduceAdd]; assumption)]
          rw [e]
          refine V.st (I' := Ir5) (L' := [(0, .ref 7), (1, .int 40), (2, .int (i32 it)), (3, .int (i32 (i + 1)))]) (ih.un (i + 1) Ir5 (by omega) ⟨fun j hj => by rw [hc2, sHold_0 _ _ _ hj]; exact hs j hj, hq.tr hq2⟩) rfl ?_
          rw [i32_s]
          simp
  refine V_go 2 rfl ?_
  exact (key 40).un 0 I rfl ⟨Cq0.rf, Fr.rf⟩
theorem c_doneWithin_15 {it : Nat} {I : I2} {J : J2} {T : TV} (hC : Cok I 15 T) (hi : it < mC (cOf I 15)) : CT mX0_doneWithin 8 58 58 [.ref 15, .int 40, .int (i32 it)] I J RF (RP RF (fun r I2 J2 => r = sDW T it 40 (cOf I 15) 6 it ∧ cOf I2 15 = sDW T it 40 (cOf I 15) ∧ J2 = J ∧ Fr 15 I I2)) := by
  have ho := hC.1
  obtain ⟨-, hT, hr0, hr1, hn0, hn8, hi0, hi6⟩ := id hC
  obtain ⟨e9, hM6⟩ := mC_i hi0 hi6
  refine CT_of okX0_doneWithin (Nat.le_of_ble_eq_true rfl) ?_
  show V _ _ _ _ _ _ [(0, _), (1, _), (2, _)] _ _ _ _ _
  have key : ∀ n, Hid (∀ (i : Nat) (I1 : I2), i + n = 40 → (Cq0 (cOf I1 15) (cOf I 15) ∧ Fr 15 I I1) → V mX0_doneWithin none 8 58 (RP RF (fun r I2 J2 => r = sDW T it n (cOf I1 15) 6 it ∧ cOf I2 15 = sDW T it n (cOf I1 15) ∧ J2 = J ∧ Fr 15 I I2)) 2 [(0, .ref 15), (1, .int 40), (2, .int (i32 it)), (3, .int (i32 i))] [] 58 I1 J RF) := by
    intro n
    induction n with
    | zero =>
      unfold Hid
      intro i I1 hi ⟨hs, hq⟩
      have f9 : I1 15 9 = I 15 9 := hs 4 (by omega)
      refine V_go 2 rfl ?_
      refine V_icmp_ge rfl (fun h1 => ?_) (fun h1 => ?_)
      · skip
        refine V_go 2 rfl ?_
        refine cVI (mt' := mX0_doneAt) rfl kX0_68 fX0_doneAt rfl rfl rfl (Nat.le_of_ble_eq_true rfl) (Nat.le_of_ble_eq_true rfl) (Nat.le_of_ble_eq_true rfl) (Nat.le_of_ble_eq_true rfl) (Nat.le_refl _) (c_doneAtR ho (c := it) (by rw [f9, e9]; grind [i32_ti]) (by omega)) ?_
        refine V_iret rfl rfl rfl ?_
        exact RP.mk ⟨rfl, rfl, rfl, hq⟩
      · skip
        exfalso
        have h9 : i = 40 := hi
        rw [h9] at h1
        exact h1 (by decide)
    | succ n ih =>
      unfold Hid
      intro i I1 hi ⟨hs, hq⟩
      have f9 : I1 15 9 = I 15 9 := hs 4 (by omega)
      refine V_go 2 rfl ?_
      refine V_icmp_ge rfl (fun h1 => ?_) (fun h1 => ?_)
      · skip
        exfalso
        exact lp_more (i := i) (N := 40) (by omega) (by omega) h1
      · skip
        refine V_go 2 rfl ?_
        refine cVI (mt' := mX0_doneAt) rfl kX0_68 fX0_doneAt rfl rfl rfl (Nat.le_of_ble_eq_true rfl) (Nat.le_of_ble_eq_true rfl) (Nat.le_of_ble_eq_true rfl) (Nat.le_of_ble_eq_true rfl) (Nat.le_refl _) (c_doneAtR ho (c := it) (by rw [f9, e9]; grind [i32_ti]) (by omega)) ?_
        refine V_go 1 rfl ?_
        refine V_icmp_ne rfl (fun h3 => ?_) (fun h3 => ?_)
        · skip
          refine V_go 2 rfl ?_
          refine cVI (mt' := mX0_doneAt) rfl kX0_68 fX0_doneAt rfl rfl rfl (Nat.le_of_ble_eq_true rfl) (Nat.le_of_ble_eq_true rfl) (Nat.le_of_ble_eq_true rfl) (Nat.le_of_ble_eq_true rfl) (Nat.le_refl _) (c_doneAtR ho (c := it) (by rw [f9, e9]; grind [i32_ti]) (by omega)) ?_
          refine V_iret rfl rfl rfl ?_
          have e : sDW T it (n + 1) (cOf I1 15) = cOf I1 15 := by
            simp only [sDW]
            rw [if_neg (by simp only [cOf, Nat.reduceAdd]; assumption)]
          rw [e]
          exact RP.mk ⟨rfl, rfl, rfl, hq⟩
        · skip
          refine V_go 1 rfl ?_
          refine cVP (mt' := mX0_hold) rfl kX0_145 fX0_hold rfl rfl rfl (Nat.le_of_ble_eq_true rfl) (Nat.le_of_ble_eq_true rfl) (Nat.le_of_ble_eq_true rfl) (Nat.le_of_ble_eq_true rfl) (Nat.le_refl _) (c_hold (hC.frq hq hs)) ?_
          intro r5 Ir5 Jr5 h5
          obtain ⟨hv, hc2, rfl, hq2⟩ := h5
          refine V_go 3 rfl ?_
          have e : sDW T it (n + 1) (cOf I1 15) = sDW T it n (cOf Ir5 15) := by
            rw [hc2]
            simp only [sDW]
            rw [if_pos (by simp only [cOf, Nat.reduceAdd]; assumption)]
          rw [e]
          refine V.st (I' := Ir5) (L' := [(0, .ref 15), (1, .int 40), (2, .int (i32 it)), (3, .int (i32 (i + 1)))]) (ih.un (i + 1) Ir5 (by omega) ⟨fun j hj => by rw [hc2, sHold_0 _ _ _ hj]; exact hs j hj, hq.tr hq2⟩) rfl ?_
          rw [i32_s]
          simp
  refine V_go 2 rfl ?_
  exact (key 40).un 0 I rfl ⟨Cq0.rf, Fr.rf⟩
theorem c_doneWithin_23 {it : Nat} {I : I2} {J : J2} {T : TV} (hC : Cok I 23 T) (hi : it < mC (cOf I 23)) : CT mX0_doneWithin 8 58 58 [.ref 23, .int 40, .int (i32 it)] I J RF (RP RF (fun r I2 J2 => r = sDW T it 40 (cOf I 23) 6 it ∧ cOf I2 23 = sDW T it 40 (cOf I 23) ∧ J2 = J ∧ Fr 23 I I2)) := by
  have ho := hC.1
  obtain ⟨-, hT, hr0, hr1, hn0, hn8, hi0, hi6⟩ := id hC
  obtain ⟨e9, hM6⟩ := mC_i hi0 hi6
  refine CT_of okX0_doneWithin (Nat.le_of_ble_eq_true rfl) ?_
  show V _ _ _ _ _ _ [(0, _), (1, _), (2, _)] _ _ _ _ _
  have key : ∀ n, Hid (∀ (i : Nat) (I1 : I2), i + n = 40 → (Cq0 (cOf I1 23) (cOf I 23) ∧ Fr 23 I I1) → V mX0_doneWithin none 8 58 (RP RF (fun r I2 J2 => r = sDW T it n (cOf I1 23) 6 it ∧ cOf I2 23 = sDW T it n (cOf I1 23) ∧ J2 = J ∧ Fr 23 I I2)) 2 [(0, .ref 23), (1, .int 40), (2, .int (i32 it)), (3, .int (i32 i))] [] 58 I1 J RF) := by
    intro n
    induction n with
    | zero =>
      unfold Hid
      intro i I1 hi ⟨hs, hq⟩
      have f9 : I1 23 9 = I 23 9 := hs 4 (by omega)
      refine V_go 2 rfl ?_
      refine V_icmp_ge rfl (fun h1 => ?_) (fun h1 => ?_)
      · skip
        refine V_go 2 rfl ?_
        refine cVI (mt' := mX0_doneAt) rfl kX0_68 fX0_doneAt rfl rfl rfl (Nat.le_of_ble_eq_true rfl) (Nat.le_of_ble_eq_true rfl) (Nat.le_of_ble_eq_true rfl) (Nat.le_of_ble_eq_true rfl) (Nat.le_refl _) (c_doneAtR ho (c := it) (by rw [f9, e9]; grind [i32_ti]) (by omega)) ?_
        refine V_iret rfl rfl rfl ?_
        exact RP.mk ⟨rfl, rfl, rfl, hq⟩
      · skip
        exfalso
        have h9 : i = 40 := hi
        rw [h9] at h1
        exact h1 (by decide)
    | succ n ih =>
      unfold Hid
      intro i I1 hi ⟨hs, hq⟩
      have f9 : I1 23 9 = I 23 9 := hs 4 (by omega)
      refine V_go 2 rfl ?_
      refine V_icmp_ge rfl (fun h1 => ?_) (fun h1 => ?_)
      · skip
        exfalso
        exact lp_more (i := i) (N := 40) (by omega) (by omega) h1
      · skip
        refine V_go 2 rfl ?_
        refine cVI (mt' := mX0_doneAt) rfl kX0_68 fX0_doneAt rfl rfl rfl (Nat.le_of_ble_eq_true rfl) (Nat.le_of_ble_eq_true rfl) (Nat.le_of_ble_eq_true rfl) (Nat.le_of_ble_eq_true rfl) (Nat.le_refl _) (c_doneAtR ho (c := it) (by rw [f9, e9]; grind [i32_ti]) (by omega)) ?_
        refine V_go 1 rfl ?_
        refine V_icmp_ne rfl (fun h3 => ?_) (fun h3 => ?_)
        · skip
          refine V_go 2 rfl ?_
          refine cVI (mt' := mX0_doneAt) rfl kX0_68 fX0_doneAt rfl rfl rfl (Nat.le_of_ble_eq_true rfl) (Nat.le_of_ble_eq_true rfl) (Nat.le_of_ble_eq_true rfl) (Nat.le_of_ble_eq_true rfl) (Nat.le_refl _) (c_doneAtR ho (c := it) (by rw [f9, e9]; grind [i32_ti]) (by omega)) ?_
          refine V_iret rfl rfl rfl ?_
          have e : sDW T it (n + 1) (cOf I1 23) = cOf I1 23 := by
            simp only [sDW]
            rw [if_neg (by simp only [cOf, Nat.reduceAdd]; assumption)]
          rw [e]
          exact RP.mk ⟨rfl, rfl, rfl, hq⟩
        · skip
          refine V_go 1 rfl ?_
          refine cVP (mt' := mX0_hold) rfl kX0_145 fX0_hold rfl rfl rfl (Nat.le_of_ble_eq_true rfl) (Nat.le_of_ble_eq_true rfl) (Nat.le_of_ble_eq_true rfl) (Nat.le_of_ble_eq_true rfl) (Nat.le_refl _) (c_hold (hC.frq hq hs)) ?_
          intro r5 Ir5 Jr5 h5
          obtain ⟨hv, hc2, rfl, hq2⟩ := h5
          refine V_go 3 rfl ?_
          have e : sDW T it (n + 1) (cOf I1 23) = sDW T it n (cOf Ir5 23) := by
            rw [hc2]
            simp only [sDW]
            rw [if_pos (by simp only [cOf, Nat.reduceAdd]; assumption)]
          rw [e]
          refine V.st (I' := Ir5) (L' := [(0, .ref 23), (1, .int 40), (2, .int (i32 it)), (3, .int (i32 (i + 1)))]) (ih.un (i + 1) Ir5 (by omega) ⟨fun j hj => by rw [hc2, sHold_0 _ _ _ hj]; exact hs j hj, hq.tr hq2⟩) rfl ?_
          rw [i32_s]
          simp
  refine V_go 2 rfl ?_
  exact (key 40).un 0 I rfl ⟨Cq0.rf, Fr.rf⟩
theorem c_doneWithin {o : Nat} {it : Nat} {I : I2} {J : J2} {T : TV} (hC : Cok I o T) (hi : it < mC (cOf I o)) : CT mX0_doneWithin 8 58 58 [.ref o, .int 40, .int (i32 it)] I J RF (RP RF (fun r I2 J2 => r = sDW T it 40 (cOf I o) 6 it ∧ cOf I2 o = sDW T it 40 (cOf I o) ∧ J2 = J ∧ Fr o I I2)) := by
  rcases hC.1 with rfl | rfl | rfl
  · exact c_doneWithin_7 hC hi
  · exact c_doneWithin_15 hC hi
  · exact c_doneWithin_23 hC hi
theorem c_putKindR {o c : Nat} {v : Int32} {I : I2} {J : J2} (ho : oC o) (h1 : i32 c < I o 5) (h2 : c < 8) : CT mX0_putKind 2 58 58 [.ref o, .int (i32 c), .int v] I J RF (RV RF (up2 I (o + 2) c v) J) := by
  have h := c_putKind (x := i32 c) (v := v) (I := I) (J := J) ho
  rw [if_pos ⟨by grind [i32_ti], h1, by grind [i32_ti]⟩, tn_of (by omega)] at h
  exact h
theorem c_putNumberR {o c : Nat} {v : Int32} {I : I2} {J : J2} (ho : oC o) (h1 : i32 c < I o 5) (h2 : c < 8) : CT mX0_putNumber 2 58 58 [.ref o, .int (i32 c), .int v] I J RF (RV RF (up2 I (o + 3) c v) J) := by
  have h := c_putNumber (x := i32 c) (v := v) (I := I) (J := J) ho
  rw [if_pos ⟨by grind [i32_ti], h1, by grind [i32_ti]⟩, tn_of (by omega)] at h
  exact h
theorem c_putBribeR {o c : Nat} {v : Int32} {I : I2} {J : J2} (ho : oC o) (h1 : i32 c < I o 5) (h2 : c < 8) : CT mX0_putBribe 2 58 58 [.ref o, .int (i32 c), .int v] I J RF (RV RF (up2 I (o + 4) c v) J) := by
  have h := c_putBribe (x := i32 c) (v := v) (I := I) (J := J) ho
  rw [if_pos ⟨by grind [i32_ti], h1, by grind [i32_ti]⟩, tn_of (by omega)] at h
  exact h
theorem c_drawBribes_7 {z0 : Int32} {I : I2} {J : J2} {T : TV} (hC : Cok I 7 T) : CT mX0_drawBribes 3 58 58 [.ref 7, .int z0] I J RF (RVP RF (fun I2 J2 => cOf I2 7 = (sDr (cOf I 7) z0 (nC (cOf I 7))).1 ∧ J2 = J ∧ Fr 7 I I2)) := by
  have ho := hC.1
  obtain ⟨-, hT, hr0, hr1, hn0, hn8, hi0, hi6⟩ := id hC
  obtain ⟨e9, hM6⟩ := mC_i hi0 hi6
  obtain ⟨e5, hN8⟩ := nC_i hn0 hn8
  refine CT_of okX0_drawBribes (Nat.le_of_ble_eq_true rfl) ?_
  show V _ _ _ _ _ _ [(0, _), (1, _)] _ _ _ _ _
  have key : ∀ n, Hid (∀ (i : Nat) (I1 : I2), i + n = nC (cOf I 7) → (cOf I1 7 = (sDr (cOf I 7) z0 i).1 ∧ Fr 7 I I1) → V mX0_drawBribes none 3 58 (RVP RF (fun I2 J2 => cOf I2 7 = (sDr (cOf I 7) z0 (nC (cOf I 7))).1 ∧ J2 = J ∧ Fr 7 I I2)) 4 [(0, .ref 7), (1, .int z0), (2, .int (sDr (cOf I 7) z0 i).2), (3, .int (i32 i))] [] 58 I1 J RF) := by
    intro n
    induction n with
    | zero =>
      unfold Hid
      intro i I1 hi ⟨hs, hq⟩
      have h00 : cOf I1 7 0 = cOf I 7 0 := by rw [hs]; exact sDr_0 _ _ _
      obtain ⟨-, -, -, f5, -⟩ := cOf_0 h00
      refine V_go 3 rfl ?_
      refine V_icmp_ge rfl (fun h1 => ?_) (fun h1 => ?_)
      · skip
        refine V_vret rfl rfl rfl ?_
        refine RVP.mk ⟨?_, rfl, hq⟩
        rw [hs, show i = nC (cOf I 7) from hi]
      · skip
        exfalso
        rw [f5, e5] at h1
        exact h1 (lp_stop hi)
    | succ n ih =>
      unfold Hid
      intro i I1 hi ⟨hs, hq⟩
      have h00 : cOf I1 7 0 = cOf I 7 0 := by rw [hs]; exact sDr_0 _ _ _
      obtain ⟨-, -, -, f5, -⟩ := cOf_0 h00
      refine V_go 3 rfl ?_
      refine V_icmp_ge rfl (fun h1 => ?_) (fun h1 => ?_)
      · skip
        exfalso
        rw [f5, e5] at h1
        exact lp_more (by omega) (by omega) h1
      · skip
        refine V_go 12 rfl ?_
        refine V_irem0 rfl (by decide) ?_
        refine cVV (mt' := mX0_putBribe) rfl kX0_72 fX0_putBribe rfl rfl rfl (Nat.le_of_ble_eq_true rfl) (Nat.le_of_ble_eq_true rfl) (Nat.le_of_ble_eq_true rfl) (Nat.le_of_ble_eq_true rfl) (Nat.le_refl _) (c_putBribeR ho (c := i) (by rw [f5, e5]; grind [i32_ti]) (by omega)) ?_
        refine V_go 2 rfl ?_
        refine V.st (I' := up2 I1 (7 + 4) i _) (L' := [(0, .ref 7), (1, .int z0), (2, .int (sDr (cOf I 7) z0 (i + 1)).2), (3, .int (i32 (i + 1)))]) (ih.un (i + 1) _ (by omega) ⟨?_, hq.tr (Fr.up (by omega))⟩) rfl ?_
        · rw [cOf_row (o := 7) (g := 3) rfl (by omega), hs]; rfl
        · rw [i32_s]
          simp [sDr]
  refine V_go 4 rfl ?_
  exact (key _).un 0 I (Nat.zero_add _) ⟨rfl, Fr.rf⟩
theorem c_drawBribes_15 {z0 : Int32} {I : I2} {J : J2} {T : TV} (hC : Cok I 15 T) : CT mX0_drawBribes 3 58 58 [.ref 15, .int z0] I J RF (RVP RF (fun I2 J2 => cOf I2 15 = (sDr (cOf I 15) z0 (nC (cOf I 15))).1 ∧ J2 = J ∧ Fr 15 I I2)) := by
  have ho := hC.1
  obtain ⟨-, hT, hr0, hr1, hn0, hn8, hi0, hi6⟩ := id hC
  obtain ⟨e9, hM6⟩ := mC_i hi0 hi6
  obtain ⟨e5, hN8⟩ := nC_i hn0 hn8
  refine CT_of okX0_drawBribes (Nat.le_of_ble_eq_true rfl) ?_
  show V _ _ _ _ _ _ [(0, _), (1, _)] _ _ _ _ _
  have key : ∀ n, Hid (∀ (i : Nat) (I1 : I2), i + n = nC (cOf I 15) → (cOf I1 15 = (sDr (cOf I 15) z0 i).1 ∧ Fr 15 I I1) → V mX0_drawBribes none 3 58 (RVP RF (fun I2 J2 => cOf I2 15 = (sDr (cOf I 15) z0 (nC (cOf I 15))).1 ∧ J2 = J ∧ Fr 15 I I2)) 4 [(0, .ref 15), (1, .int z0), (2, .int (sDr (cOf I 15) z0 i).2), (3, .int (i32 i))] [] 58 I1 J RF) := by
    intro n
    induction n with
    | zero =>
      unfold Hid
      intro i I1 hi ⟨hs, hq⟩
      have h00 : cOf I1 15 0 = cOf I 15 0 := by rw [hs]; exact sDr_0 _ _ _
      obtain ⟨-, -, -, f5, -⟩ := cOf_0 h00
      refine V_go 3 rfl ?_
      refine V_icmp_ge rfl (fun h1 => ?_) (fun h1 => ?_)
      · skip
        refine V_vret rfl rfl rfl ?_
        refine RVP.mk ⟨?_, rfl, hq⟩
        rw [hs, show i = nC (cOf I 15) from hi]
      · skip
        exfalso
        rw [f5, e5] at h1
        exact h1 (lp_stop hi)
    | succ n ih =>
      unfold Hid
      intro i I1 hi ⟨hs, hq⟩
      have h00 : cOf I1 15 0 = cOf I 15 0 := by rw [hs]; exact sDr_0 _ _ _
      obtain ⟨-, -, -, f5, -⟩ := cOf_0 h00
      refine V_go 3 rfl ?_
      refine V_icmp_ge rfl (fun h1 => ?_) (fun h1 => ?_)
      · skip
        exfalso
        rw [f5, e5] at h1
        exact lp_more (by omega) (by omega) h1
      · skip
        refine V_go 12 rfl ?_
        refine V_irem0 rfl (by decide) ?_
        refine cVV (mt' := mX0_putBribe) rfl kX0_72 fX0_putBribe rfl rfl rfl (Nat.le_of_ble_eq_true rfl) (Nat.le_of_ble_eq_true rfl) (Nat.le_of_ble_eq_true rfl) (Nat.le_of_ble_eq_true rfl) (Nat.le_refl _) (c_putBribeR ho (c := i) (by rw [f5, e5]; grind [i32_ti]) (by omega)) ?_
        refine V_go 2 rfl ?_
        refine V.st (I' := up2 I1 (15 + 4) i _) (L' := [(0, .ref 15), (1, .int z0), (2, .int (sDr (cOf I 15) z0 (i + 1)).2), (3, .int (i32 (i + 1)))]) (ih.un (i + 1) _ (by omega) ⟨?_, hq.tr (Fr.up (by omega))⟩) rfl ?_
        · rw [cOf_row (o := 15) (g := 3) rfl (by omega), hs]; rfl
        · rw [i32_s]
          simp [sDr]
  refine V_go 4 rfl ?_
  exact (key _).un 0 I (Nat.zero_add _) ⟨rfl, Fr.rf⟩
theorem c_drawBribes_23 {z0 : Int32} {I : I2} {J : J2} {T : TV} (hC : Cok I 23 T) : CT mX0_drawBribes 3 58 58 [.ref 23, .int z0] I J RF (RVP RF (fun I2 J2 => cOf I2 23 = (sDr (cOf I 23) z0 (nC (cOf I 23))).1 ∧ J2 = J ∧ Fr 23 I I2)) := by
  have ho := hC.1
  obtain ⟨-, hT, hr0, hr1, hn0, hn8, hi0, hi6⟩ := id hC
  obtain ⟨e9, hM6⟩ := mC_i hi0 hi6
  obtain ⟨e5, hN8⟩ := nC_i hn0 hn8
  refine CT_of okX0_drawBribes (Nat.le_of_ble_eq_true rfl) ?_
  show V _ _ _ _ _ _ [(0, _), (1, _)] _ _ _ _ _
  have key : ∀ n, Hid (∀ (i : Nat) (I1 : I2), i + n = nC (cOf I 23) → (cOf I1 23 = (sDr (cOf I 23) z0 i).1 ∧ Fr 23 I I1) → V mX0_drawBribes none 3 58 (RVP RF (fun I2 J2 => cOf I2 23 = (sDr (cOf I 23) z0 (nC (cOf I 23))).1 ∧ J2 = J ∧ Fr 23 I I2)) 4 [(0, .ref 23), (1, .int z0), (2, .int (sDr (cOf I 23) z0 i).2), (3, .int (i32 i))] [] 58 I1 J RF) := by
    intro n
    induction n with
    | zero =>
      unfold Hid
      intro i I1 hi ⟨hs, hq⟩
      have h00 : cOf I1 23 0 = cOf I 23 0 := by rw [hs]; exact sDr_0 _ _ _
      obtain ⟨-, -, -, f5, -⟩ := cOf_0 h00
      refine V_go 3 rfl ?_
      refine V_icmp_ge rfl (fun h1 => ?_) (fun h1 => ?_)
      · skip
        refine V_vret rfl rfl rfl ?_
        refine RVP.mk ⟨?_, rfl, hq⟩
        rw [hs, show i = nC (cOf I 23) from hi]
      · skip
        exfalso
        rw [f5, e5] at h1
        exact h1 (lp_stop hi)
    | succ n ih =>
      unfold Hid
      intro i I1 hi ⟨hs, hq⟩
      have h00 : cOf I1 23 0 = cOf I 23 0 := by rw [hs]; exact sDr_0 _ _ _
      obtain ⟨-, -, -, f5, -⟩ := cOf_0 h00
      refine V_go 3 rfl ?_
      refine V_icmp_ge rfl (fun h1 => ?_) (fun h1 => ?_)
      · skip
        exfalso
        rw [f5, e5] at h1
        exact lp_more (by omega) (by omega) h1
      · skip
        refine V_go 12 rfl ?_
        refine V_irem0 rfl (by decide) ?_
        refine cVV (mt' := mX0_putBribe) rfl kX0_72 fX0_putBribe rfl rfl rfl (Nat.le_of_ble_eq_true rfl) (Nat.le_of_ble_eq_true rfl) (Nat.le_of_ble_eq_true rfl) (Nat.le_of_ble_eq_true rfl) (Nat.le_refl _) (c_putBribeR ho (c := i) (by rw [f5, e5]; grind [i32_ti]) (by omega)) ?_
        refine V_go 2 rfl ?_
        refine V.st (I' := up2 I1 (23 + 4) i _) (L' := [(0, .ref 23), (1, .int z0), (2, .int (sDr (cOf I 23) z0 (i + 1)).2), (3, .int (i32 (i + 1)))]) (ih.un (i + 1) _ (by omega) ⟨?_, hq.tr (Fr.up (by omega))⟩) rfl ?_
        · rw [cOf_row (o := 23) (g := 3) rfl (by omega), hs]; rfl
        · rw [i32_s]
          simp [sDr]
  refine V_go 4 rfl ?_
  exact (key _).un 0 I (Nat.zero_add _) ⟨rfl, Fr.rf⟩
theorem c_drawBribes {o : Nat} {z0 : Int32} {I : I2} {J : J2} {T : TV} (hC : Cok I o T) : CT mX0_drawBribes 3 58 58 [.ref o, .int z0] I J RF (RVP RF (fun I2 J2 => cOf I2 o = (sDr (cOf I o) z0 (nC (cOf I o))).1 ∧ J2 = J ∧ Fr o I I2)) := by
  rcases hC.1 with rfl | rfl | rfl
  · exact c_drawBribes_7 hC
  · exact c_drawBribes_15 hC
  · exact c_drawBribes_23 hC
end
section
theorem c_isSort {k : Int32} {I : I2} {J : J2} : CT mX4_isSort 1 58 58 [.int k] I J RF (RI RF (b2i (0 ≤ k ∧ k ≤ 2)) I J) := by
  refine CT_of okX4_isSort (Nat.le_of_ble_eq_true rfl) ?_
  show V _ _ _ _ _ _ [(0, _)] _ _ _ _ _
  refine V_go 1 rfl ?_
  refine V_if_lt rfl (fun h1 => ?_) (fun h1 => ?_)
  · skip
    refine V_go 1 rfl ?_
    refine V_zret rfl rfl rfl (by first | exact Or.inl rfl | exact Or.inr rfl | exact b2i_or _ | assumption) ?_
    exact RI.mk (by grind [b2i, i32_ti, tcn])
  · skip
    refine V_go 2 rfl ?_
    refine V_icmp_gt rfl (fun h2 => ?_) (fun h2 => ?_)
    · skip
      refine V_go 1 rfl ?_
      refine V_zret rfl rfl rfl (by first | exact Or.inl rfl | exact Or.inr rfl | exact b2i_or _ | assumption) ?_
      exact RI.mk (by grind [b2i, i32_ti, tcn])
    · skip
      refine V_go 2 rfl ?_
      refine V_zret rfl rfl rfl (by first | exact Or.inl rfl | exact Or.inr rfl | exact b2i_or _ | assumption) ?_
      exact RI.mk (by grind [b2i, i32_ti, tcn])
theorem c_hasPlace {x : Int32} {I : I2} {J : J2} : CT mX4_hasPlace 1 58 58 [.ref 34, .int x] I J RF (RI RF (b2i (0 ≤ x ∧ x < 4)) I J) := by
  refine CT_of okX4_hasPlace (Nat.le_of_ble_eq_true rfl) ?_
  show V _ _ _ _ _ _ [(0, _), (1, _)] _ _ _ _ _
  refine V_go 1 rfl ?_
  refine V_if_lt rfl (fun h1 => ?_) (fun h1 => ?_)
  · skip
    refine V_go 1 rfl ?_
    refine V_zret rfl rfl rfl (by first | exact Or.inl rfl | exact Or.inr rfl | exact b2i_or _ | assumption) ?_
    exact RI.mk (by grind [b2i, i32_ti, tcn])
  · skip
    refine V_go 2 rfl ?_
    refine V_icmp_ge rfl (fun h2 => ?_) (fun h2 => ?_)
    · skip
      refine V_go 1 rfl ?_
      refine V_zret rfl rfl rfl (by first | exact Or.inl rfl | exact Or.inr rfl | exact b2i_or _ | assumption) ?_
      exact RI.mk (by grind [b2i, i32_ti, tcn])
    · skip
      refine V_go 2 rfl ?_
      refine V_zret rfl rfl rfl (by first | exact Or.inl rfl | exact Or.inr rfl | exact b2i_or _ | assumption) ?_
      exact RI.mk (by grind [b2i, i32_ti, tcn])
theorem c_sortOf {x : Int32} {I : I2} {J : J2} : CT mX4_sortOf 2 58 58 [.ref 34, .int x] I J RF (RI RF (if 0 ≤ x ∧ x < 4 then I 35 x.toNatClampNeg else -1) I J) := by
  refine CT_of okX4_sortOf (Nat.le_of_ble_eq_true rfl) ?_
  show V _ _ _ _ _ _ [(0, _), (1, _)] _ _ _ _ _
  refine V_go 2 rfl ?_
  refine cVI (mt' := mX4_hasPlace) rfl kX4_19 fX4_hasPlace rfl rfl rfl (Nat.le_of_ble_eq_true rfl) (Nat.le_of_ble_eq_true rfl) (Nat.le_of_ble_eq_true rfl) (Nat.le_of_ble_eq_true rfl) (Nat.le_refl _) (c_hasPlace) ?_
  refine V_if_eq rfl (fun h2 => ?_) (fun h2 => ?_)
  · skip
    refine V_go 1 rfl ?_
    refine V_iret rfl rfl rfl ?_
    exact RI.mk (by grind [b2i, i32_ti, tcn])
  · skip
    refine V_go 3 rfl ?_
    refine V_iald rfl rfl (Nat.le_of_ble_eq_true rfl) (inb_ofN (by decide) (by grind [b2i, i32_ti, tcn]) (by grind [b2i, i32_ti, tcn])) ?_
    refine V_go 1 rfl ?_
    refine V_iret rfl rfl rfl ?_
    exact RI.mk (by grind [b2i, i32_ti, tcn])
theorem c_sizeOf {x : Int32} {I : I2} {J : J2} : CT mX4_sizeOf 2 58 58 [.ref 34, .int x] I J RF (RI RF (if 0 ≤ x ∧ x < 4 then I 36 x.toNatClampNeg else 0) I J) := by
  refine CT_of okX4_sizeOf (Nat.le_of_ble_eq_true rfl) ?_
  show V _ _ _ _ _ _ [(0, _), (1, _)] _ _ _ _ _
  refine V_go 2 rfl ?_
  refine cVI (mt' := mX4_hasPlace) rfl kX4_19 fX4_hasPlace rfl rfl rfl (Nat.le_of_ble_eq_true rfl) (Nat.le_of_ble_eq_true rfl) (Nat.le_of_ble_eq_true rfl) (Nat.le_of_ble_eq_true rfl) (Nat.le_refl _) (c_hasPlace) ?_
  refine V_if_eq rfl (fun h2 => ?_) (fun h2 => ?_)
  · skip
    refine V_go 1 rfl ?_
    refine V_iret rfl rfl rfl ?_
    exact RI.mk (by grind [b2i, i32_ti, tcn])
  · skip
    refine V_go 3 rfl ?_
    refine V_iald rfl rfl (Nat.le_of_ble_eq_true rfl) (inb_ofN (by decide) (by grind [b2i, i32_ti, tcn]) (by grind [b2i, i32_ti, tcn])) ?_
    refine V_go 1 rfl ?_
    refine V_iret rfl rfl rfl ?_
    exact RI.mk (by grind [b2i, i32_ti, tcn])
theorem c_sortOfR {x : Int32} {I : I2} {J : J2} (p0 : 0 ≤ x) (p4 : x < 4) : CT mX4_sortOf 2 58 58 [.ref 34, .int x] I J RF (RI RF (I 35 x.toNatClampNeg) I J) := by
  have h := c_sortOf (x := x) (I := I) (J := J)
  rw [if_pos ⟨p0, p4⟩] at h
  exact h
theorem c_sizeOfR {x : Int32} {I : I2} {J : J2} (p0 : 0 ≤ x) (p4 : x < 4) : CT mX4_sizeOf 2 58 58 [.ref 34, .int x] I J RF (RI RF (I 36 x.toNatClampNeg) I J) := by
  have h := c_sizeOf (x := x) (I := I) (J := J)
  rw [if_pos ⟨p0, p4⟩] at h
  exact h
theorem c_isMissing {x : Int32} {I : I2} {J : J2} (p0 : 0 ≤ x) (p4 : x < 4) : CT mX4_isMissing 3 58 58 [.ref 34, .int x] I J RF (RI RF (b2i (I 35 x.toNatClampNeg = -1)) I J) := by
  refine CT_of okX4_isMissing (Nat.le_of_ble_eq_true rfl) ?_
  show V _ _ _ _ _ _ [(0, _), (1, _)] _ _ _ _ _
  refine V_go 2 rfl ?_
  refine cVI (mt' := mX4_sortOf) rfl kX4_23 fX4_sortOf rfl rfl rfl (Nat.le_of_ble_eq_true rfl) (Nat.le_of_ble_eq_true rfl) (Nat.le_of_ble_eq_true rfl) (Nat.le_of_ble_eq_true rfl) (Nat.le_refl _) (c_sortOfR p0 p4) ?_
  refine V_go 1 rfl ?_
  refine V_icmp_ne rfl (fun h2 => ?_) (fun h2 => ?_)
  · skip
    refine V_go 1 rfl ?_
    refine V_zret rfl rfl rfl (by first | exact Or.inl rfl | exact Or.inr rfl | exact b2i_or _ | assumption) ?_
    exact RI.mk (by grind [b2i, i32_ti, tcn])
  · skip
    refine V_go 2 rfl ?_
    refine V_zret rfl rfl rfl (by first | exact Or.inl rfl | exact Or.inr rfl | exact b2i_or _ | assumption) ?_
    exact RI.mk (by grind [b2i, i32_ti, tcn])
theorem c_hasItem9 {x y : Int32} {I : I2} {J : J2} (p0 : 0 ≤ x) (p4 : x < 4) : CT mX4_hasItem 3 58 58 [.ref 34, .int x, .int y] I J RF (RI RF (b2i (0 ≤ y ∧ y < I 36 x.toNatClampNeg ∧ y < 40)) I J) := by
  refine CT_of okX4_hasItem (Nat.le_of_ble_eq_true rfl) ?_
  show V _ _ _ _ _ _ [(0, _), (1, _), (2, _)] _ _ _ _ _
  refine V_go 1 rfl ?_
  refine V_if_lt rfl (fun h1 => ?_) (fun h1 => ?_)
  · skip
    refine V_go 1 rfl ?_
    refine V_zret rfl rfl rfl (by first | exact Or.inl rfl | exact Or.inr rfl | exact b2i_or _ | assumption) ?_
    exact RI.mk (by grind [b2i, i32_ti, tcn])
  · skip
    refine V_go 3 rfl ?_
    refine cVI (mt' := mX4_sizeOf) rfl kX4_27 fX4_sizeOf rfl rfl rfl (Nat.le_of_ble_eq_true rfl) (Nat.le_of_ble_eq_true rfl) (Nat.le_of_ble_eq_true rfl) (Nat.le_of_ble_eq_true rfl) (Nat.le_refl _) (c_sizeOfR p0 p4) ?_
    refine V_icmp_ge rfl (fun h3 => ?_) (fun h3 => ?_)
    · skip
      refine V_go 1 rfl ?_
      refine V_zret rfl rfl rfl (by first | exact Or.inl rfl | exact Or.inr rfl | exact b2i_or _ | assumption) ?_
      exact RI.mk (by grind [b2i, i32_ti, tcn])
    · skip
      refine V_go 2 rfl ?_
      refine V_icmp_ge rfl (fun h4 => ?_) (fun h4 => ?_)
      · skip
        refine V_go 1 rfl ?_
        refine V_zret rfl rfl rfl (by first | exact Or.inl rfl | exact Or.inr rfl | exact b2i_or _ | assumption) ?_
        exact RI.mk (by grind [b2i, i32_ti, tcn])
      · skip
        refine V_go 2 rfl ?_
        refine V_zret rfl rfl rfl (by first | exact Or.inl rfl | exact Or.inr rfl | exact b2i_or _ | assumption) ?_
        exact RI.mk (by grind [b2i, i32_ti, tcn])
theorem c_hasItems {x y n : Int32} {I : I2} {J : J2} (p0 : 0 ≤ x) (p4 : x < 4) : CT mX4_hasItems 3 58 58 [.ref 34, .int x, .int y, .int n] I J RF (RI RF (b2i (0 ≤ y ∧ 0 ≤ n ∧ n ≤ 40 ∧ y ≤ I 36 x.toNatClampNeg - n)) I J) := by
  refine CT_of okX4_hasItems (Nat.le_of_ble_eq_true rfl) ?_
  show V _ _ _ _ _ _ [(0, _), (1, _), (2, _), (3, _)] _ _ _ _ _
  refine V_go 1 rfl ?_
  refine V_if_lt rfl (fun h1 => ?_) (fun h1 => ?_)
  · skip
    refine V_go 1 rfl ?_
    refine V_zret rfl rfl rfl (by first | exact Or.inl rfl | exact Or.inr rfl | exact b2i_or _ | assumption) ?_
    exact RI.mk (by grind [b2i, i32_ti, tcn])
  · skip
    refine V_go 1 rfl ?_
    refine V_if_lt rfl (fun h2 => ?_) (fun h2 => ?_)
    · skip
      refine V_go 1 rfl ?_
      refine V_zret rfl rfl rfl (by first | exact Or.inl rfl | exact Or.inr rfl | exact b2i_or _ | assumption) ?_
      exact RI.mk (by grind [b2i, i32_ti, tcn])
    · skip
      refine V_go 2 rfl ?_
      refine V_icmp_gt rfl (fun h3 => ?_) (fun h3 => ?_)
      · skip
        refine V_go 1 rfl ?_
        refine V_zret rfl rfl rfl (by first | exact Or.inl rfl | exact Or.inr rfl | exact b2i_or _ | assumption) ?_
        exact RI.mk (by grind [b2i, i32_ti, tcn])
      · skip
        refine V_go 3 rfl ?_
        refine cVI (mt' := mX4_sizeOf) rfl kX4_27 fX4_sizeOf rfl rfl rfl (Nat.le_of_ble_eq_true rfl) (Nat.le_of_ble_eq_true rfl) (Nat.le_of_ble_eq_true rfl) (Nat.le_of_ble_eq_true rfl) (Nat.le_refl _) (c_sizeOfR p0 p4) ?_
        refine V_go 2 rfl ?_
        refine V_icmp_gt rfl (fun h5 => ?_) (fun h5 => ?_)
        · skip
          refine V_go 1 rfl ?_
          refine V_zret rfl rfl rfl (by first | exact Or.inl rfl | exact Or.inr rfl | exact b2i_or _ | assumption) ?_
          exact RI.mk (by grind [b2i, i32_ti, tcn])
        · skip
          refine V_go 2 rfl ?_
          refine V_zret rfl rfl rfl (by first | exact Or.inl rfl | exact Or.inr rfl | exact b2i_or _ | assumption) ?_
          exact RI.mk (by grind [b2i, i32_ti, tcn])
theorem s40n {a b : Nat} (ha : a < 4) (hb : b < 41) : (i32 a * 40 + i32 b) = i32 (40 * a + b) := by
  have : a = 0 ∨ a = 1 ∨ a = 2 ∨ a = 3 := by omega
  rcases this with rfl | rfl | rfl | rfl <;> grind [i32_ti]
theorem s40 {x y : Int32} (p0 : 0 ≤ x) (p4 : x < 4) (hy : 0 ≤ y) (hy2 : y < 41) : (x * 40 + y).toNatClampNeg = 40 * x.toNatClampNeg + y.toNatClampNeg ∧ 0 ≤ x * 40 + y ∧ x * 40 + y < 161 := by
  have a := tcn x p0
  have b := tcn y hy
  have h1 : 0 ≤ x * 40 + y ∧ x * 40 + y < 161 := by grind
  refine ⟨?_, h1⟩
  have ex : i32 x.toNatClampNeg = x := Int32.ofNat_toNatClampNeg _ p0
  have ey : i32 y.toNatClampNeg = y := Int32.ofNat_toNatClampNeg _ hy
  have e := s40n (a := x.toNatClampNeg) (b := y.toNatClampNeg) (by grind) (by grind)
  rw [ex, ey] at e
  rw [e]
  exact tn_of (by grind)
theorem s40i {x y : Int32} (p0 : 0 ≤ x) (p4 : x < 4) (hy : 0 ≤ y) (hy2 : y < 40) : inb (x * 40 + y) 160 := by
  refine inb_ofN (by decide) (s40 p0 p4 hy (by grind)).2.1 ?_
  grind
def sConv (k v : Int32) : Int32 := if k = 0 then i2bV v else if k = 1 then i2sV v else v
theorem c_valueAt {x y : Int32} {I : I2} {J : J2} (p0 : 0 ≤ x) (p4 : x < 4) (hy : 0 ≤ y) (hy1 : y < I 36 x.toNatClampNeg) (hy2 : y < 40) : CT mX4_valueAt 4 58 58 [.ref 34, .int x, .int y] I J RF (RI RF (I 37 (40 * x.toNatClampNeg + y.toNatClampNeg)) I J) := by
  refine CT_of okX4_valueAt (Nat.le_of_ble_eq_true rfl) ?_
  show V _ _ _ _ _ _ [(0, _), (1, _), (2, _)] _ _ _ _ _
  refine V_go 3 rfl ?_
  refine cVI (mt' := mX4_hasItem) rfl kX4_30 fX4_hasItem rfl rfl rfl (Nat.le_of_ble_eq_true rfl) (Nat.le_of_ble_eq_true rfl) (Nat.le_of_ble_eq_true rfl) (Nat.le_of_ble_eq_true rfl) (Nat.le_refl _) (c_hasItem9 p0 p4) ?_
  refine V_if_eq rfl (fun h2 => ?_) (fun h2 => ?_)
  · skip
    refine V_go 1 rfl ?_
    refine V_iret rfl rfl rfl ?_
    first
      | exact RI.mk (by rw [(s40 p0 p4 hy (by grind)).1])
      | (exfalso; grind [b2i])
  · skip
    refine V_go 7 rfl ?_
    refine V_iald rfl rfl (Nat.le_of_ble_eq_true rfl) (s40i p0 p4 hy hy2) ?_
    refine V_go 1 rfl ?_
    refine V_iret rfl rfl rfl ?_
    first
      | exact RI.mk (by rw [(s40 p0 p4 hy (by grind)).1])
      | (exfalso; grind [b2i])
theorem c_store {x y v : Int32} {I : I2} {J : J2} (p0 : 0 ≤ x) (p4 : x < 4) (hy : 0 ≤ y) (hy1 : y < I 36 x.toNatClampNeg) (hy2 : y < 40) : CT mX4_store 4 58 58 [.ref 34, .int x, .int y, .int v] I J RF (RV RF (up2 I 37 (40 * x.toNatClampNeg + y.toNatClampNeg) (sConv (I 35 x.toNatClampNeg) v)) J) := by
  refine CT_of okX4_store (Nat.le_of_ble_eq_true rfl) ?_
  show V _ _ _ _ _ _ [(0, _), (1, _), (2, _), (3, _)] _ _ _ _ _
  refine V_go 3 rfl ?_
  refine cVI (mt' := mX4_hasItem) rfl kX4_30 fX4_hasItem rfl rfl rfl (Nat.le_of_ble_eq_true rfl) (Nat.le_of_ble_eq_true rfl) (Nat.le_of_ble_eq_true rfl) (Nat.le_of_ble_eq_true rfl) (Nat.le_refl _) (c_hasItem9 p0 p4) ?_
  refine V_if_ne rfl (fun h2 => ?_) (fun h2 => ?_)
  · skip
    refine V_go 2 rfl ?_
    refine cVI (mt' := mX4_sortOf) rfl kX4_23 fX4_sortOf rfl rfl rfl (Nat.le_of_ble_eq_true rfl) (Nat.le_of_ble_eq_true rfl) (Nat.le_of_ble_eq_true rfl) (Nat.le_of_ble_eq_true rfl) (Nat.le_refl _) (c_sortOfR p0 p4) ?_
    refine V_go 9 rfl ?_
    refine V_if_ne rfl (fun h4 => ?_) (fun h4 => ?_)
    · skip
      refine V_go 2 rfl ?_
      refine V_icmp_ne rfl (fun h5 => ?_) (fun h5 => ?_)
      · skip
        refine V_go 1 rfl ?_
        refine V_iast rfl rfl (Nat.le_of_ble_eq_true rfl) (s40i p0 p4 hy hy2) ?_
        refine V_vret rfl rfl rfl ?_
        first
          | (exfalso; grind [b2i]; done)
          | exact RV.mk2 (by rw [(s40 p0 p4 hy (by grind)).1]; congr 1; unfold sConv; grind)
      · skip
        refine V_go 3 rfl ?_
        refine V_iast rfl rfl (Nat.le_of_ble_eq_true rfl) (s40i p0 p4 hy hy2) ?_
        refine V_vret rfl rfl rfl ?_
        first
          | (exfalso; grind [b2i]; done)
          | exact RV.mk2 (by rw [(s40 p0 p4 hy (by grind)).1]; congr 1; unfold sConv; grind)
    · skip
      refine V_go 3 rfl ?_
      refine V_iast rfl rfl (Nat.le_of_ble_eq_true rfl) (s40i p0 p4 hy hy2) ?_
      refine V_vret rfl rfl rfl ?_
      first
        | (exfalso; grind [b2i]; done)
        | exact RV.mk2 (by rw [(s40 p0 p4 hy (by grind)).1]; congr 1; unfold sConv; grind)
  · skip
    refine V_vret rfl rfl rfl ?_
    first
      | (exfalso; grind [b2i]; done)
      | exact RV.mk2 (by rw [(s40 p0 p4 hy (by grind)).1]; congr 1; unfold sConv; grind)
theorem c_move {x y o w n : Int32} {I : I2} {J : J2} (p0 : 0 ≤ x) (p4 : x < 4) (g0 : 0 ≤ o) (g4 : o < 4) (hy : 0 ≤ y) (hn : 0 ≤ n) (hn4 : n ≤ 40) (hy1 : y ≤ I 36 x.toNatClampNeg - n) (hw : 0 ≤ w) (hw1 : w ≤ I 36 o.toNatClampNeg - n) (hs1 : 0 ≤ I 36 x.toNatClampNeg ∧ I 36 x.toNatClampNeg ≤ 40) (hs2 : 0 ≤ I 36 o.toNatClampNeg ∧ I 36 o.toNatClampNeg ≤ 40) : CT mX4_move 4 58 58 [.ref 34, .int x, .int y, .int o, .int w, .int n] I J RF (RV RF (row2 I 37 (va_cpy (I 37) (I 37) (40 * x.toNatClampNeg + y.toNatClampNeg) (40 * o.toNatClampNeg + w.toNatClampNeg) n.toNatClampNeg)) J) := by
  refine CT_of okX4_move (Nat.le_of_ble_eq_true rfl) ?_
  show V _ _ _ _ _ _ [(0, _), (1, _), (2, _), (3, _), (4, _), (5, _)] _ _ _ _ _
  refine V_go 4 rfl ?_
  refine cVI (mt' := mX4_hasItems) rfl kX4_34 fX4_hasItems rfl rfl rfl (Nat.le_of_ble_eq_true rfl) (Nat.le_of_ble_eq_true rfl) (Nat.le_of_ble_eq_true rfl) (Nat.le_of_ble_eq_true rfl) (Nat.le_refl _) (c_hasItems p0 p4) ?_
  refine V_if_eq rfl (fun h2 => ?_) (fun h2 => ?_)
  · skip
    refine V_vret rfl rfl rfl ?_
    first
      | exact RV.mk2 (by rw [(s40 p0 p4 hy (by grind)).1, (s40 g0 g4 hw (by grind)).1])
      | (exfalso; grind [b2i])
  · skip
    refine V_go 4 rfl ?_
    refine cVI (mt' := mX4_hasItems) rfl kX4_34 fX4_hasItems rfl rfl rfl (Nat.le_of_ble_eq_true rfl) (Nat.le_of_ble_eq_true rfl) (Nat.le_of_ble_eq_true rfl) (Nat.le_of_ble_eq_true rfl) (Nat.le_refl _) (c_hasItems g0 g4) ?_
    refine V_if_eq rfl (fun h4 => ?_) (fun h4 => ?_)
    · skip
      refine V_vret rfl rfl rfl ?_
      first
        | exact RV.mk2 (by rw [(s40 p0 p4 hy (by grind)).1, (s40 g0 g4 hw (by grind)).1])
        | (exfalso; grind [b2i])
    · skip
      refine V_go 15 rfl ?_
      refine V_copy (wl1 := 857) (wn := 677) (ws9 := 676) (wi1 := 125) rfl (by decide +kernel) (by decide +kernel) (by decide +kernel) (by decide +kernel) (Nat.le_of_ble_eq_true rfl) (Nat.le_of_ble_eq_true rfl) rfl rfl (Nat.le_of_ble_eq_true rfl) (Nat.le_of_ble_eq_true rfl) (s40 p0 p4 hy (by grind)).2.1 (s40 g0 g4 hw (by grind)).2.1 hn (by rw [(s40 p0 p4 hy (by grind)).1]; grind [tcn]) (by rw [(s40 g0 g4 hw (by grind)).1]; grind [tcn]) ?_
      refine V_vret rfl rfl rfl ?_
      first
        | exact RV.mk2 (by rw [(s40 p0 p4 hy (by grind)).1, (s40 g0 g4 hw (by grind)).1])
        | (exfalso; grind [b2i])
def sZero (g : Nat → Int32) (a n : Nat) : Nat → Int32 := fun j => if a ≤ j ∧ j < a + n then 0 else g j
theorem sZero_s (g : Nat → Int32) (a n : Nat) : upd (sZero g a n) (a + n) 0 = sZero g a (n + 1) := by
  funext j
  simp only [upd, sZero]
  grind
theorem sZero_0 (g : Nat → Int32) (a : Nat) : sZero g a 0 = g := by
  funext j
  simp only [sZero]
  grind

theorem c_lay {x k : Int32} {N : Nat} {I : I2} {J : J2} (p0 : 0 ≤ x) (p4 : x < 4) (hN : N ≤ 40) : CT mX4_lay 2 58 58 [.ref 34, .int x, .int k, .int (i32 N)] I J RF (RV RF (row2 (up2 (up2 I 35 x.toNatClampNeg k) 36 x.toNatClampNeg (i32 N)) 37 (sZero (I 37) (40 * x.toNatClampNeg) N)) J) := by
  refine CT_of okX4_lay (Nat.le_of_ble_eq_true rfl) ?_
  show V _ _ _ _ _ _ [(0, _), (1, _), (2, _), (3, _)] _ _ _ _ _
  have key : ∀ n, Hid (∀ (i : Nat), i + n = N → True → V mX4_lay none 2 58 (RV RF (row2 (up2 (up2 I 35 x.toNatClampNeg k) 36 x.toNatClampNeg (i32 N)) 37 (sZero (I 37) (40 * x.toNatClampNeg) N)) J) 36 [(0, .ref 34), (1, .int x), (2, .int k), (3, .int (i32 N)), (4, .int (i32 i))] [] 58 (row2 (up2 (up2 I 35 x.toNatClampNeg k) 36 x.toNatClampNeg (i32 N)) 37 (sZero (I 37) (40 * x.toNatClampNeg) i)) J RF) := by
    intro n
    induction n with
    | zero =>
      unfold Hid
      intro i  hi _
      refine V_go 2 rfl ?_
      refine V_icmp_ge rfl (fun h1 => ?_) (fun h1 => ?_)
      · skip
        refine V_vret rfl rfl rfl ?_
        exact RV.mk2 (by rw [show i = N from hi])
      · skip
        exfalso
        exact h1 (lp_stop hi)
    | succ n ih =>
      unfold Hid
      intro i  hi _
      have q1 : 0 ≤ i32 i := by grind [i32_ti]
      refine V_go 2 rfl ?_
      refine V_icmp_ge rfl (fun h1 => ?_) (fun h1 => ?_)
      · skip
        exfalso
        exact lp_more (by omega) (by omega) h1
      · skip
        refine V_go 8 rfl ?_
        refine V_iast rfl rfl (Nat.le_of_ble_eq_true rfl) (s40i p0 p4 q1 (by grind [i32_ti])) ?_
        refine V_go 2 rfl ?_
        refine V.st (L' := [(0, .ref 34), (1, .int x), (2, .int k), (3, .int (i32 N)), (4, .int (i32 (i + 1)))]) (ih.un (i + 1) (by omega) trivial) ?_ ?_
        · rw [(s40 p0 p4 q1 (by grind [i32_ti])).1, tn_of (by omega), up2_row2, sZero_s]
        · rw [i32_s]; simp
  refine V_go 2 rfl ?_
  refine cVI (mt' := mX4_hasPlace) rfl kX4_19 fX4_hasPlace rfl rfl rfl (Nat.le_of_ble_eq_true rfl) (Nat.le_of_ble_eq_true rfl) (Nat.le_of_ble_eq_true rfl) (Nat.le_of_ble_eq_true rfl) (Nat.le_refl _) (c_hasPlace) ?_
  refine V_if_eq rfl (fun h2 => ?_) (fun h2 => ?_)
  · skip
    refine V_vret rfl rfl rfl ?_
    exfalso
    grind [b2i, i32_ti]
  · skip
    refine V_go 1 rfl ?_
    refine V_if_lt rfl (fun h3 => ?_) (fun h3 => ?_)
    · skip
      refine V_vret rfl rfl rfl ?_
      exfalso
      grind [b2i, i32_ti]
    · skip
      refine V_go 2 rfl ?_
      refine V_icmp_le rfl (fun h4 => ?_) (fun h4 => ?_)
      · skip
        refine V_go 4 rfl ?_
        refine V_iast rfl rfl (Nat.le_of_ble_eq_true rfl) (inb_ofN (by decide) (by grind [b2i, i32_ti, tcn]) (by grind [b2i, i32_ti, tcn])) ?_
        refine V_go 4 rfl ?_
        refine V_iast rfl rfl (Nat.le_of_ble_eq_true rfl) (inb_ofN (by decide) (by grind [b2i, i32_ti, tcn]) (by grind [b2i, i32_ti, tcn])) ?_
        refine V_go 2 rfl ?_
        have e := (key N).un 0 (Nat.zero_add _) trivial
        rw [sZero_0, show I 37 = (up2 (up2 I 35 x.toNatClampNeg k) 36 x.toNatClampNeg (i32 N)) 37 from by rw [up2_ne (by omega), up2_ne (by omega)], row2_self] at e
        exact e
      · skip
        refine V_vret rfl rfl rfl ?_
        exfalso
        grind [b2i, i32_ti]
end
section
/-- the first of 40 sittings by which so many minutes are there -/
def aft (Mt : Nat → Int32) (x : Int32) : Nat → Nat → Nat
  | 0, i => i
  | n + 1, i => if Mt i < x then aft Mt x n (i + 1) else i
def tryF (g : Nat → (Int32 × Int32) → (Int32 × Int32)) : Nat → (Int32 × Int32) → (Int32 × Int32)
  | 0, s => s
  | i + 1, s => g i (tryF g i s)
def tryE (sum dg : Int32) (s : Int32 × Int32) : Int32 × Int32 := if sum < s.1 then (sum, dg) else s
/-- all orders of what waits, tried one behind the other: the least sum, its digits -/
def tryS (R Mt : Nat → Int32) (f : Int32) : Nat → Nat → Int32 → Int32 → Int32 → (Int32 × Int32) → (Int32 × Int32)
  | 0, _, _, sum, dg, s => tryE sum dg s
  | k + 1, w, mi, sum, dg, s => if w = 0 then tryE sum dg s else tryF (fun i s => if w.testBit i then tryS R Mt f k (w - 2 ^ i) (mi + R i) (sum + (f + i32 (aft Mt (mi + R i) 40 0))) (dg * 10 + i32 i + 1) s else s) 6 s
def memO (I : I2) (s : Int32 × Int32) : I2 := up2 (up2 I 31 3 s.2) 31 4 s.1
theorem memO_self (I : I2) : memO I (I 31 4, I 31 3) = I := by
  funext a b
  simp only [memO, up2_rd]
  grind
theorem memO_row (I : I2) (s : Int32 × Int32) (a : Nat) (h : a ≠ 31) : memO I s a = I a := by
  unfold memO
  rw [up2_ne h, up2_ne h]
theorem memO_rd (I : I2) (s : Int32 × Int32) : memO I s 31 4 = s.1 ∧ memO I s 31 3 = s.2 ∧ memO I s 31 2 = I 31 2 := by
  simp [memO, up2_rd]
theorem memO_set (I : I2) (s : Int32 × Int32) (x y : Int32) : up2 (up2 (memO I s) 31 4 x) 31 3 y = memO I (x, y) := by
  funext a b
  simp only [memO, up2_rd]
  grind
theorem wbit : ∀ w, w < 64 → ∀ i, i < 6 → (i32 w >>> (i32 i &&& 31)) &&& 1 = if w.testBit i then 1 else 0 := by decide +kernel
theorem wclr : ∀ w, w < 64 → ∀ i, i < 6 → w.testBit i = true → i32 w &&& ((1 : Int32) <<< (i32 i &&& 31) ^^^ -1) = i32 (w - 2 ^ i) := by decide +kernel
theorem i32_0 {w : Nat} (h : w < 64) : i32 w = 0 ↔ w = 0 := by grind [i32_ti]
theorem c_sittingAfter {x : Int32} {I : I2} {J : J2} : CT mX2_sittingAfter 1 58 58 [.ref 31, .int x] I J RF (RI RF (I 31 2 + i32 (aft (I 33) x 40 0)) I J) := by
  refine CT_of okX2_sittingAfter (Nat.le_of_ble_eq_true rfl) ?_
  show V _ _ _ _ _ _ [(0, _), (1, _)] _ _ _ _ _
  have key : ∀ n, Hid (∀ (i : Nat), i + n = 40 → True → V mX2_sittingAfter none 1 58 (RI RF (I 31 2 + i32 (aft (I 33) x n i)) I J) 2 [(0, .ref 31), (1, .int x), (2, .int (i32 i))] [] 58 I J RF) := by
    intro n
    induction n with
    | zero =>
      unfold Hid
      intro i  hi _
      refine V_go 4 rfl ?_
      refine V_icmp_ge rfl (fun h1 => ?_) (fun h1 => ?_)
      · skip
        refine V_go 4 rfl ?_
        refine V_iret rfl rfl rfl ?_
        exact RI.mk rfl
      · skip
        exfalso
        have h9 : i = 40 := hi
        rw [h9] at h1
        exact h1 (by decide)
    | succ n ih =>
      unfold Hid
      intro i  hi _
      refine V_go 4 rfl ?_
      refine V_icmp_ge rfl (fun h1 => ?_) (fun h1 => ?_)
      · skip
        exfalso
        exact lp_more (i := i) (N := 40) (by omega) (by omega) h1
      · skip
        refine V_go 3 rfl ?_
        refine V_iald rfl rfl (Nat.le_of_ble_eq_true rfl) (inb_ofN (by decide) (by grind [b2i, i32_ti, tcn]) (by grind [b2i, i32_ti, tcn])) ?_
        refine V_go 1 rfl ?_
        refine V_icmp_ge rfl (fun h2 => ?_) (fun h2 => ?_)
        · skip
          refine V_go 4 rfl ?_
          refine V_iret rfl rfl rfl ?_
          exact RI.mk (by rw [aft, if_neg (by rw [tn_of (by omega)] at h2; grind)])
        · skip
          refine V_go 2 rfl ?_
          rw [show aft (I 33) x (n + 1) i = aft (I 33) x n (i + 1) from by rw [aft, if_pos (by rw [tn_of (by omega)] at h2; grind)]]
          refine V.st (L' := [(0, .ref 31), (1, .int x), (2, .int (i32 (i + 1)))]) (ih.un (i + 1) (by omega) trivial) rfl ?_
          rw [i32_s]
          simp
  refine V_go 2 rfl ?_
  exact (key 40).un 0 rfl trivial
theorem c_tryAll {I : I2} {J : J2} : ∀ (k : Nat) (s : Int32 × Int32) (w pl : Nat) (mi sum dg : Int32), pl + k = 6 → w < 64 → CT mX2_tryAll (k + 2) 58 58 [.ref 31, .int (i32 pl), .int (i32 w), .int mi, .int sum, .int dg] (memO I s) J RF (RV RF (memO I (tryS (I 32) (I 33) (I 31 2) k w mi sum dg s)) J) := by
  intro k
  induction k with
  | zero =>
    intro s w pl mi sum dg hk hw
    refine CT_of okX2_tryAll (Nat.le_of_ble_eq_true rfl) ?_
    show V _ _ _ _ _ _ [(0, _), (1, _), (2, _), (3, _), (4, _), (5, _)] _ _ _ _ _
    have e13 : V mX2_tryAll none 2 58 (RV RF (memO I (tryS (I 32) (I 33) (I 31 2) 0 w mi sum dg s)) J) 13 [(0, .ref 31), (1, .int (i32 pl)), (2, .int (i32 w)), (3, .int mi), (4, .int sum), (5, .int dg)] [] 58 (memO I s) J RF := by
      rw [tryS]
      refine V_go 3 rfl ?_
      refine V_icmp_ge rfl (fun h1 => ?_) (fun h1 => ?_)
      · skip
        refine V_vret rfl rfl rfl ?_
        simp only [memO_rd] at *
        first
          | exact RV.mk2 (by rw [tryE, if_pos (Int32.not_le.mp h1), memO_set])
          | exact RV.mk2 (by rw [tryE, if_neg (Int32.not_lt.mpr h1)])
      · skip
        refine V_go 6 rfl ?_
        refine V_vret rfl rfl rfl ?_
        simp only [memO_rd] at *
        first
          | exact RV.mk2 (by rw [tryE, if_pos (Int32.not_le.mp h1), memO_set])
          | exact RV.mk2 (by rw [tryE, if_neg (Int32.not_lt.mpr h1)])
    refine V_go 1 rfl ?_
    refine V_if_eq rfl (fun h1 => ?_) (fun h1 => ?_)
    · skip
      exact e13
    · skip
      refine V_go 4 rfl ?_
      refine V_icmp_lt rfl (fun h2 => ?_) (fun h2 => ?_)
      · skip
        exfalso
        rw [show pl = 6 from hk] at h2
        exact absurd h2 (by decide)
      · skip
        exact e13
  | succ k IH =>
    intro s w pl mi sum dg hk hw
    refine CT_of okX2_tryAll (Nat.le_of_ble_eq_true rfl) ?_
    show V _ _ _ _ _ _ [(0, _), (1, _), (2, _), (3, _), (4, _), (5, _)] _ _ _ _ _
    by_cases hw0 : w = 0
    · rw [show tryS (I 32) (I 33) (I 31 2) (k + 1) w mi sum dg s = tryE sum dg s from by rw [tryS, if_pos hw0]]
      have e13 : V mX2_tryAll none (k + 1 + 2) 58 (RV RF (memO I (tryE sum dg s)) J) 13 [(0, .ref 31), (1, .int (i32 pl)), (2, .int (i32 w)), (3, .int mi), (4, .int sum), (5, .int dg)] [] 58 (memO I s) J RF := by
        refine V_go 3 rfl ?_
        refine V_icmp_ge rfl (fun h1 => ?_) (fun h1 => ?_)
        · skip
          refine V_vret rfl rfl rfl ?_
          simp only [memO_rd] at *
          first
            | exact RV.mk2 (by rw [tryE, if_pos (Int32.not_le.mp h1), memO_set])
            | exact RV.mk2 (by rw [tryE, if_neg (Int32.not_lt.mpr h1)])
        · skip
          refine V_go 6 rfl ?_
          refine V_vret rfl rfl rfl ?_
          simp only [memO_rd] at *
          first
            | exact RV.mk2 (by rw [tryE, if_pos (Int32.not_le.mp h1), memO_set])
            | exact RV.mk2 (by rw [tryE, if_neg (Int32.not_lt.mpr h1)])
      refine V_go 1 rfl ?_
      refine V_if_eq rfl (fun h1 => ?_) (fun h1 => ?_)
      · skip
        exact e13
      · skip
        exact absurd ((i32_0 hw).mpr hw0) h1
    · rw [show tryS (I 32) (I 33) (I 31 2) (k + 1) w mi sum dg s = tryF (fun i s => if w.testBit i then tryS (I 32) (I 33) (I 31 2) k (w - 2 ^ i) (mi + I 32 i) (sum + (I 31 2 + i32 (aft (I 33) (mi + I 32 i) 40 0))) (dg * 10 + i32 i + 1) s else s) 6 s from by rw [tryS, if_neg hw0]]
      obtain ⟨g, hg⟩ : ∃ g, g = (fun i s => if w.testBit i then tryS (I 32) (I 33) (I 31 2) k (w - 2 ^ i) (mi + I 32 i) (sum + (I 31 2 + i32 (aft (I 33) (mi + I 32 i) 40 0))) (dg * 10 + i32 i + 1) s else s) := ⟨_, rfl⟩
      rw [← hg]
      have key : ∀ n, Hid (∀ (i : Nat), i + n = 6 → True → V mX2_tryAll none (k + 1 + 2) 58 (RV RF (memO I (tryF g 6 s)) J) 38 [(0, .ref 31), (1, .int (i32 pl)), (2, .int (i32 w)), (3, .int mi), (4, .int sum), (5, .int dg), (6, .int (i32 i))] [] 58 (memO I (tryF g i s)) J RF) := by
        intro n
        induction n with
        | zero =>
          unfold Hid
          intro i  hi _
          refine V_go 4 rfl ?_
          refine V_icmp_ge rfl (fun h1 => ?_) (fun h1 => ?_)
          · skip
            refine V_vret rfl rfl rfl ?_
            exact RV.mk2 (by rw [show i = 6 from hi])
          · skip
            exfalso
            have h9 : i = 6 := hi
            rw [h9] at h1
            exact h1 (by decide)
        | succ n ih =>
          unfold Hid
          intro i  hi _
          refine V_go 4 rfl ?_
          refine V_icmp_ge rfl (fun h1 => ?_) (fun h1 => ?_)
          · skip
            exfalso
            exact lp_more (i := i) (N := 6) (by omega) (by omega) h1
          · skip
            refine V_go 6 rfl ?_
            refine V_icmp_ne rfl (fun h2 => ?_) (fun h2 => ?_)
            · skip
              refine V_go 2 rfl ?_
              refine V.st (L' := [(0, .ref 31), (1, .int (i32 pl)), (2, .int (i32 w)), (3, .int mi), (4, .int sum), (5, .int dg), (6, .int (i32 (i + 1)))]) (ih.un (i + 1) (by omega) trivial) (by rw [tryF, hg]; simp only []; rw [if_neg (by have := wbit w hw i (by omega); grind)]) ?_
              rw [i32_s]
              simp
            · skip
              refine V_go 4 rfl ?_
              refine V_iald rfl rfl (Nat.le_of_ble_eq_true rfl) (inb_ofN (by decide) (by grind [i32_ti]) (by grind [i32_ti])) ?_
              refine V_go 17 rfl ?_
              refine cVI (mt' := mX2_sittingAfter) rfl kX2_51 fX2_sittingAfter rfl rfl rfl (Nat.le_of_ble_eq_true rfl) (Nat.le_of_ble_eq_true rfl) (Nat.le_of_ble_eq_true rfl) (Nat.le_of_ble_eq_true rfl) (Nat.le_refl _) (c_sittingAfter) ?_
              refine V_go 8 rfl ?_
              have hbit : w.testBit i = true := by have := wbit w hw i (by omega); grind
              simp only [memO_row I _ 32 (by omega), memO_row I _ 33 (by omega), memO_rd, tn_of (show i < 2147483648 by omega)]
              rw [wclr w hw i (by omega) hbit, ← i32_s pl]
              have hle : 2 ^ i ≤ w := Nat.ge_two_pow_of_testBit hbit
              have ihk := fun (s : Int32 × Int32) (w9 pl9 : Nat) (a b c : Int32) => IH s w9 pl9 a b c
              refine cVV (mt' := mX2_tryAll) rfl kX2_47 fX2_tryAll rfl rfl rfl (Nat.le_of_ble_eq_true rfl) (Nat.le_of_ble_eq_true rfl) (by omega) (Nat.le_of_ble_eq_true rfl) (Nat.le_refl _) (ihk (tryF g i s) (w - 2 ^ i) (pl + 1) _ _ _ (by omega) (Nat.lt_of_le_of_lt (Nat.sub_le _ _) hw)) ?_
              refine V_go 2 rfl ?_
              refine V.st (L' := [(0, .ref 31), (1, .int (i32 pl)), (2, .int (i32 w)), (3, .int mi), (4, .int sum), (5, .int dg), (6, .int (i32 (i + 1)))]) (ih.un (i + 1) (by omega) trivial) (by rw [tryF, hg]; simp only []; rw [if_pos hbit]) ?_
              rw [i32_s]
              simp
      refine V_go 1 rfl ?_
      refine V_if_eq rfl (fun h1 => ?_) (fun h1 => ?_)
      · skip
        exact absurd ((i32_0 hw).mp h1) hw0
      · skip
        refine V_go 4 rfl ?_
        refine V_icmp_lt rfl (fun h2 => ?_) (fun h2 => ?_)
        · skip
          refine V_go 2 rfl ?_
          exact (key 6).un 0 rfl trivial
        · skip
          exfalso
          grind [i32_ti]
end
section
theorem aft_congr {M M' : Nat → Int32} (h : ∀ t, t < 40 → M t = M' t) (x : Int32) : ∀ n i, i + n = 40 → aft M x n i = aft M' x n i
  | 0, _, _ => rfl
  | n + 1, i, hi => by
    rw [aft, aft, h i (by omega), aft_congr h x n (i + 1) (by omega)]
theorem tryF_congr {g g' : Nat → (Int32 × Int32) → (Int32 × Int32)} : ∀ n s, (∀ i s, i < n → g i s = g' i s) → tryF g n s = tryF g' n s
  | 0, _, _ => rfl
  | n + 1, s, h => by
    rw [tryF, tryF, tryF_congr n s (fun i s hi => h i s (by omega)), h n _ (by omega)]
theorem tryS_congr {R R' M M' : Nat → Int32} (hR : ∀ i, i < 6 → R i = R' i) (hM : ∀ t, t < 40 → M t = M' t) {f : Int32} : ∀ k w mi sum dg s, tryS R M f k w mi sum dg s = tryS R' M' f k w mi sum dg s
  | 0, _, _, _, _, _ => rfl
  | k + 1, w, mi, sum, dg, s => by
    rw [tryS, tryS]
    split
    · rfl
    · refine tryF_congr 6 s (fun i s hi => ?_)
      rw [hR i hi, aft_congr hM _ 40 0 rfl, tryS_congr hR hM k]
def sRest (C : CC) (i : Nat) : Int32 := if i < mC C then C 4 i - C 5 i else 0
def sWait (C : CC) : Nat → Nat
  | 0 => 0
  | i + 1 => if 0 < sRest C i then sWait C i + 2 ^ i else sWait C i
def sMt (T : TV) (C : CC) : Nat → Int32
  | 0 => 0
  | t + 1 => sMt T C t + sLeft T (up2 C 0 0 (C 0 0 + i32 t))
def sOrd (T : TV) (C : CC) : Int32 × Int32 := tryS (sRest C) (fun t => sMt T C (t + 1)) (C 0 0) 6 (sWait C 6) 0 0 0 (2147483647, 0)
theorem sWait_lt (C : CC) : ∀ i, sWait C i < 2 ^ i
  | 0 => by simp [sWait]
  | i + 1 => by
    have h := sWait_lt C i
    rw [sWait, Nat.pow_succ]
    split <;> omega
def restF (C : CC) (g : Nat → Int32) (i : Nat) : Nat → Int32 := fun j => if j < i then sRest C j else g j
theorem restF_s (C : CC) (g : Nat → Int32) (i : Nat) (v : Int32) (hv : v = sRest C i) : upd (restF C g i) i v = restF C g (i + 1) := by
  funext j
  simp only [upd, restF]
  grind
theorem restF_0 (C : CC) (g : Nat → Int32) : restF C g 0 = g := by
  funext j
  simp [restF]
theorem rest_eq {I : I2} {i : Nat} (hi0 : 0 ≤ I 15 9) (hi6 : I 15 9 ≤ 6) (hi : i < 6) : (if 0 ≤ i32 i ∧ i32 i < I 15 9 ∧ i32 i < 6 then I 20 i else -1) - (if 0 ≤ i32 i ∧ i32 i < I 15 9 ∧ i32 i < 6 then I 21 i else -1) = sRest (cOf I 15) i := by
  obtain ⟨h1, h2⟩ := mC_i hi0 hi6
  unfold sRest
  by_cases h : i < mC (cOf I 15)
  · rw [if_pos h, if_pos (by rw [h1]; grind [i32_ti]), if_pos (by rw [h1]; grind [i32_ti])]
    rfl
  · rw [if_neg h, if_neg (by rw [h1]; grind [i32_ti]), if_neg (by rw [h1]; grind [i32_ti])]
    rfl
theorem orbit6 : ∀ i, i < 6 → ∀ w, w < 2 ^ i → i32 w ||| (1 : Int32) <<< (i32 i &&& 31) = i32 (w + 2 ^ i) := by decide +kernel
/-- what the weighing may change -/
def FrW (I I1 : I2) : Prop := ∀ a, a ≠ 4 → a ≠ 31 → a ≠ 32 → a ≠ 33 → (a < 15 ∨ 23 ≤ a) → I1 a = I a
theorem Cok.frW {I I1 : I2} {T : TV} (h : Cok I 15 T) (q : FrW I I1) (e : Cq0 (cOf I1 15) (cOf I 15)) : Cok I1 15 T := by
  obtain ⟨ho, ⟨h1, h2, h3⟩, h4⟩ := h
  have e1 : I1 1 = I 1 := q 1 (by omega) (by omega) (by omega) (by omega) (by omega)
  have e2 : I1 2 = I 2 := q 2 (by omega) (by omega) (by omega) (by omega) (by omega)
  have e3 : I1 3 = I 3 := q 3 (by omega) (by omega) (by omega) (by omega) (by omega)
  have f2 : I1 15 4 = I 15 4 := e 2 (by omega)
  have f3 : I1 15 5 = I 15 5 := e 3 (by omega)
  have f4 : I1 15 9 = I 15 9 := e 4 (by omega)
  refine ⟨ho, ⟨?_, ?_, ?_⟩, ?_⟩
  · rw [e1]; exact h1
  · rw [e1]; exact h2
  · rw [e1, e2, e3]; exact h3
  · rw [f2, f3, f4, e1]; exact h4
theorem c_weigh {I : I2} {J : J2} {T : TV} (hC : Cok I 15 T) : CT mX2_weigh 11 58 58 [.ref 31, .ref 15] I J RF (RVP RF (fun I9 J9 => J9 = J ∧ I9 31 4 = (sOrd T (cOf I 15)).1 ∧ I9 31 3 = (sOrd T (cOf I 15)).2 ∧ FrW I I9)) := by
  have ho := hC.1
  obtain ⟨-, hT, hr0, hr1, hn0, hn8, hi0, hi6⟩ := id hC
  refine CT_of okX2_weigh (Nat.le_of_ble_eq_true rfl) ?_
  show V _ _ _ _ _ _ [(0, _), (1, _)] _ _ _ _ _
  have key2 : ∀ n, Hid (∀ (i : Nat) (I1 : I2), i + n = 40 → (cOf I1 15 = up2 (cOf I 15) 0 0 (cOf I 15 0 0 + i32 i) ∧ (∀ t, t < i → I1 33 t = sMt T (cOf I 15) (t + 1)) ∧ (∀ t, t < 6 → I1 32 t = sRest (cOf I 15) t) ∧ I1 31 2 = cOf I 15 0 0 ∧ FrW I I1) → V mX2_weigh none 11 58 (RVP RF (fun I9 J9 => J9 = J ∧ I9 31 4 = (sOrd T (cOf I 15)).1 ∧ I9 31 3 = (sOrd T (cOf I 15)).2 ∧ FrW I I9)) 64 [(0, .ref 31), (1, .ref 15), (2, .int (i32 (sWait (cOf I 15) 6))), (3, .int (sMt T (cOf I 15) i)), (4, .int (i32 i))] [] 58 I1 J RF) := by
    intro n
    induction n with
    | zero =>
      unfold Hid
      intro i I1 hi ⟨hc, hmt, hre, hfs, hf⟩
      refine V_go 4 rfl ?_
      refine V_icmp_ge rfl (fun h1 => ?_) (fun h1 => ?_)
      · skip
        refine V_go 12 rfl ?_
        have h9 : i = 40 := hi
        subst h9
        have he : tryS (I1 32) (I1 33) (I1 31 2) 6 (sWait (cOf I 15) 6) 0 0 0 (2147483647, 0) = sOrd T (cOf I 15) := by
          rw [hfs]
          exact tryS_congr hre hmt 6 _ _ _ _ _
        rw [show up2 (up2 I1 31 3 0) 31 4 2147483647 = memO I1 (2147483647, 0) from rfl]
        refine cVV (mt' := mX2_tryAll) rfl kX2_47 fX2_tryAll rfl rfl rfl (Nat.le_of_ble_eq_true rfl) (Nat.le_of_ble_eq_true rfl) (Nat.le_of_ble_eq_true rfl) (Nat.le_of_ble_eq_true rfl) (Nat.le_refl _) (c_tryAll (I := I1) 6 (2147483647, 0) (sWait (cOf I 15) 6) 0 0 0 0 rfl (sWait_lt _ 6)) ?_
        refine V_vret rfl rfl rfl ?_
        refine RVP.mk ⟨rfl, ?_, ?_, ?_⟩
        · rw [(memO_rd _ _).1, he]
        · rw [(memO_rd _ _).2.1, he]
        · intro a b1 b2 b3 b4 b5
          rw [memO_row _ _ _ b2]
          exact hf a b1 b2 b3 b4 b5
      · skip
        exfalso
        have h9 : i = 40 := hi
        rw [h9] at h1
        exact h1 (by decide)
    | succ n ih =>
      unfold Hid
      intro i I1 hi ⟨hc, hmt, hre, hfs, hf⟩
      have hC1 : Cok I1 15 T := hC.frW hf (by intro j hj; rw [hc, up2_rd]; simp [hj])
      refine V_go 4 rfl ?_
      refine V_icmp_ge rfl (fun h1 => ?_) (fun h1 => ?_)
      · skip
        exfalso
        exact lp_more (i := i) (N := 40) (by omega) (by omega) h1
      · skip
        refine V_go 2 rfl ?_
        refine cVP (mt' := mX0_minutesLeft) rfl kX2_34 fX0_minutesLeft rfl rfl rfl (Nat.le_of_ble_eq_true rfl) (Nat.le_of_ble_eq_true rfl) (Nat.le_of_ble_eq_true rfl) (Nat.le_of_ble_eq_true rfl) (Nat.le_refl _) (c_minutesLeft_15 hC1) ?_
        intro r2 Ir2 Jr2 h2
        obtain ⟨hv, rfl, hq2⟩ := h2
        rw [hc] at hv
        have e15 : cOf (up2 Ir2 33 (i32 i).toNatClampNeg (sMt T (cOf I 15) i + r2)) 15 = cOf I1 15 := by
          rw [← cOf_sq ho hq2]
          funext a b
          simp only [cOf, up2_rd]
          simp
        have IQ15 : up2 Ir2 33 (i32 i).toNatClampNeg (sMt T (cOf I 15) i + r2) 15 2 = cOf I 15 0 0 + i32 i := by
          rw [up2_ne (by omega)]
          have := congrFun (congrFun (cOf_sq ho hq2) 0) 0
          rw [hc] at this
          simpa [cOf, up2_rd] using this
        refine V_go 6 rfl ?_
        refine V_iast rfl rfl (Nat.le_of_ble_eq_true rfl) (inb_ofN (by decide) (by grind [i32_ti]) (by grind [i32_ti])) ?_
        refine V_go 8 rfl ?_
        refine V.st (I' := _) (L' := [(0, .ref 31), (1, .ref 15), (2, .int (i32 (sWait (cOf I 15) 6))), (3, .int (sMt T (cOf I 15) (i + 1))), (4, .int (i32 (i + 1)))]) (ih.un (i + 1) _ (by omega) ⟨?_, ?_, ?_, ?_, ?_⟩) rfl ?_
        · rw [cOf_fld (o := 15) (f := 2) (by omega), e15, IQ15, hc]
          funext a b
          simp only [up2_rd, fldJ, i32_s, reduceIte, Int32.add_assoc]
          grind
        · intro t ht
          rw [up2_ne (by omega), up2_rd, tn_of (show i < 2147483648 by omega)]
          simp only [reduceIte]
          split
          · rename_i ht2; subst ht2; rw [hv]; rfl
          · rw [hq2 33 (by omega) (by omega)]; exact hmt t (by omega)
        · intro t ht
          rw [up2_ne (by omega), up2_ne (by omega), hq2 32 (by omega) (by omega)]; exact hre t ht
        · rw [up2_ne (by omega), up2_ne (by omega), hq2 31 (by omega) (by omega)]; exact hfs
        · intro a b1 b2 b3 b4 b5
          rw [up2_ne (by omega), up2_ne (by omega), hq2 a (by omega) (by omega)]; exact hf a b1 b2 b3 b4 b5
        · rw [i32_s, show sMt T (cOf I 15) (i + 1) = sMt T (cOf I 15) i + r2 from by rw [sMt, hv]]
          simp
  have k51 : V mX2_weigh none 11 58 (RVP RF (fun I9 J9 => J9 = J ∧ I9 31 4 = (sOrd T (cOf I 15)).1 ∧ I9 31 3 = (sOrd T (cOf I 15)).2 ∧ FrW I I9)) 51 [(0, .ref 31), (1, .ref 15), (2, .int (i32 (sWait (cOf I 15) 6))), (3, .int (i32 6))] [] 58 (row2 I 32 (restF (cOf I 15) (I 32) 6)) J RF := by
    refine V_go 8 rfl ?_
    refine V.st (L' := [(0, .ref 31), (1, .ref 15), (2, .int (i32 (sWait (cOf I 15) 6))), (3, .int 0), (4, .int 0)]) ((key2 40).un 0 _ rfl ⟨?_, ?_, ?_, ?_, ?_⟩) rfl (by simp)
    · funext a b
      simp only [cOf, up2_rd, row2_rd]
      simp
      grind
    · intro t ht; exact absurd ht (by omega)
    · intro t ht
      rw [up2_ne (by omega), row2_eq]
      simp [restF, ht]
    · simp only [up2_rd, row2_rd, cOf]
      simp
    · intro a b1 b2 b3 b4 b5
      rw [up2_ne b2, row2_ne b3]
  have key1 : ∀ n, Hid (∀ (i : Nat), i + n = 6 → True → V mX2_weigh none 11 58 (RVP RF (fun I9 J9 => J9 = J ∧ I9 31 4 = (sOrd T (cOf I 15)).1 ∧ I9 31 3 = (sOrd T (cOf I 15)).2 ∧ FrW I I9)) 4 [(0, .ref 31), (1, .ref 15), (2, .int (i32 (sWait (cOf I 15) i))), (3, .int (i32 i))] [] 58 (row2 I 32 (restF (cOf I 15) (I 32) i)) J RF) := by
    intro n
    induction n with
    | zero =>
      unfold Hid
      intro i  hi _
      refine V_go 4 rfl ?_
      refine V_icmp_ge rfl (fun h1 => ?_) (fun h1 => ?_)
      · skip
        have h9 : i = 6 := hi
        subst h9
        exact k51
      · skip
        exfalso
        have h9 : i = 6 := hi
        rw [h9] at h1
        exact h1 (by decide)
    | succ n ih =>
      unfold Hid
      intro i  hi _
      refine V_go 4 rfl ?_
      refine V_icmp_ge rfl (fun h1 => ?_) (fun h1 => ?_)
      · skip
        exfalso
        exact lp_more (i := i) (N := 6) (by omega) (by omega) h1
      · skip
        refine V_go 5 rfl ?_
        refine cVI (mt' := mX0_takesOf) rfl kX2_20 fX0_takesOf rfl rfl rfl (Nat.le_of_ble_eq_true rfl) (Nat.le_of_ble_eq_true rfl) (Nat.le_of_ble_eq_true rfl) (Nat.le_of_ble_eq_true rfl) (Nat.le_refl _) (c_takesOf ho) ?_
        refine V_go 2 rfl ?_
        refine cVI (mt' := mX0_soFarOf) rfl kX2_24 fX0_soFarOf rfl rfl rfl (Nat.le_of_ble_eq_true rfl) (Nat.le_of_ble_eq_true rfl) (Nat.le_of_ble_eq_true rfl) (Nat.le_of_ble_eq_true rfl) (Nat.le_refl _) (c_soFarOf ho) ?_
        refine V_go 1 rfl ?_
        simp only [row2_rd, reduceIte, Nat.reduceEqDiff, Nat.reduceAdd, tn_of (show i < 2147483648 by omega)]
        refine V_iast rfl rfl (Nat.le_of_ble_eq_true rfl) (inb_ofN (by decide) (by grind [i32_ti]) (by grind [i32_ti])) ?_
        have hre := rest_eq hi0 hi6 (show i < 6 by omega)
        have hm0 : up2 (row2 I 32 (restF (cOf I 15) (I 32) i)) 32 (i32 i).toNatClampNeg ((if 0 ≤ i32 i ∧ i32 i < I 15 9 ∧ i32 i < 6 then I 20 i else -1) - (if 0 ≤ i32 i ∧ i32 i < I 15 9 ∧ i32 i < 6 then I 21 i else -1)) = row2 I 32 (restF (cOf I 15) (I 32) (i + 1)) := by
          rw [tn_of (by omega), up2_row2, restF_s _ _ _ _ hre]
        refine V_go 3 rfl ?_
        refine V_iald rfl rfl (Nat.le_of_ble_eq_true rfl) (inb_ofN (by decide) (by grind [i32_ti]) (by grind [i32_ti])) ?_
        simp only [up2_rd, row2_rd, reduceIte, Nat.reduceEqDiff]
        refine V_if_le rfl (fun h4 => ?_) (fun h4 => ?_)
        · skip
          refine V_go 2 rfl ?_
          have hm := hm0
          refine V.st (L' := [(0, .ref 31), (1, .ref 15), (2, .int (i32 (sWait (cOf I 15) (i + 1)))), (3, .int (i32 (i + 1)))]) (ih.un (i + 1) (by omega) trivial) hm ?_
          rw [i32_s, show sWait (cOf I 15) (i + 1) = sWait (cOf I 15) i from by rw [sWait, if_neg (by rw [← hre]; grind)]]
          simp
        · skip
          refine V_go 8 rfl ?_
          have hm := hm0
          refine V.st (L' := [(0, .ref 31), (1, .ref 15), (2, .int (i32 (sWait (cOf I 15) (i + 1)))), (3, .int (i32 (i + 1)))]) (ih.un (i + 1) (by omega) trivial) hm ?_
          rw [i32_s, show sWait (cOf I 15) (i + 1) = sWait (cOf I 15) i + 2 ^ i from by rw [sWait, if_pos (by rw [← hre]; grind)], ← orbit6 i (by omega) _ (sWait_lt _ i)]
          simp

  refine V_go 4 rfl ?_
  have e := (key1 6).un 0 rfl trivial
  rw [restF_0, row2_self] at e
  exact e
end
section
/-- but for what is worked with: the stack, the council's names, the thought council, the weighed orders -/
def Scr (I I1 : I2) : Prop := ∀ a, a ≠ 4 → a ≠ 8 → (a < 15 ∨ 23 ≤ a) → a ≠ 31 → a ≠ 32 → a ≠ 33 → I1 a = I a
theorem Scr.rf {I : I2} : Scr I I := fun _ _ _ _ _ _ _ => rfl
theorem Scr.tr {I I1 I2' : I2} (h : Scr I I1) (h' : Scr I1 I2') : Scr I I2' := fun a h1 h2 h3 h4 h5 h6 => (h' a h1 h2 h3 h4 h5 h6).trans (h a h1 h2 h3 h4 h5 h6)
theorem Sq.scr7 {I I1 : I2} (h : Sq 7 I I1) : Scr I I1 := fun a h1 h2 _ _ _ _ => h a h1 h2
theorem Fr.scr15 {I I1 : I2} (h : Fr 15 I I1) : Scr I I1 := fun a h1 _ h3 _ _ _ => h a h1 h3
theorem Sq.scr15 {I I1 : I2} (h : Sq 15 I I1) : Scr I I1 := h.fr.scr15
theorem FrW.scr {I I1 : I2} (h : FrW I I1) : Scr I I1 := fun a h1 _ h3 h4 h5 h6 => h a h1 h4 h5 h6 h3
theorem cOf_scr {I I1 : I2} (q : Scr I I1) : cOf I1 7 = cOf I 7 := by
  have e (a : Nat) (h1 : a ≠ 4) (h2 : a ≠ 8) (h3 : a < 15) : I1 a = I a := q a h1 h2 (Or.inl h3) (by omega) (by omega) (by omega)
  funext g j
  simp only [cOf, Nat.reduceAdd, e 7 (by omega) (by omega) (by omega), e 9 (by omega) (by omega) (by omega), e 10 (by omega) (by omega) (by omega), e 11 (by omega) (by omega) (by omega), e 12 (by omega) (by omega) (by omega), e 13 (by omega) (by omega) (by omega), e 14 (by omega) (by omega) (by omega)]
theorem EvC.rows {I I1 : I2} {T : TV} (h : EvC I T) (e1 : I1 1 = I 1) (e2 : I1 2 = I 2) (e3 : I1 3 = I 3) : EvC I1 T := by
  obtain ⟨h1, h2, h3⟩ := h
  refine ⟨?_, ?_, ?_⟩
  · rw [e1]; exact h1
  · rw [e1]; exact h2
  · rw [e1, e2, e3]; exact h3
theorem EvC.scr {I I1 : I2} {T : TV} (h : EvC I T) (q : Scr I I1) : EvC I1 T := h.rows (q 1 (by omega) (by omega) (by omega) (by omega) (by omega) (by omega)) (q 2 (by omega) (by omega) (by omega) (by omega) (by omega) (by omega)) (q 3 (by omega) (by omega) (by omega) (by omega) (by omega) (by omega))
theorem Cok.scr {I I1 : I2} {T : TV} (h : Cok I 7 T) (q : Scr I I1) : Cok I1 7 T := by
  obtain ⟨ho, h1, h4⟩ := h
  have e7 : I1 7 = I 7 := q 7 (by omega) (by omega) (by omega) (by omega) (by omega) (by omega)
  have e1 : I1 1 = I 1 := q 1 (by omega) (by omega) (by omega) (by omega) (by omega) (by omega)
  refine ⟨ho, h1.scr q, ?_⟩
  rw [e7, e1]
  exact h4
/-- the thought council, once it has become another -/
theorem Cok.bec {I I1 : I2} {T : TV} (h : Cok I 7 T) (q : Fr 15 I I1) (e : Cq 8 6 (cOf I1 15) (cOf I 7)) : Cok I1 15 T := by
  obtain ⟨ho, h1, h4⟩ := h
  have e1 : I1 1 = I 1 := q 1 (by omega) (by omega)
  have f2 : I1 15 4 = I 7 4 := e.1 2 (by omega)
  have f3 : I1 15 5 = I 7 5 := e.1 3 (by omega)
  have f4 : I1 15 9 = I 7 9 := e.1 4 (by omega)
  refine ⟨Or.inr (Or.inl rfl), h1.scr q.scr15, ?_⟩
  rw [f2, f3, f4, e1]
  exact h4
theorem nC8 {I : I2} {T : TV} {o : Nat} (h : Cok I o T) : nC (cOf I o) ≤ 8 ∧ mC (cOf I o) ≤ 6 := ⟨(nC_i h.2.2.2.2.1 h.2.2.2.2.2.1).2, (mC_i h.2.2.2.2.2.2.1 h.2.2.2.2.2.2.2).2⟩
theorem evr {I : I2} {T : TV} {o : Nat} (h : Cok I o T) : (1 : Int32) <<< (I o 5 &&& 31) - 1 = i32 (2 ^ nC (cOf I o) - 1) ∧ 2 ^ nC (cOf I o) ≤ 256 ∧ 1 ≤ 2 ^ nC (cOf I o) := by
  obtain ⟨h1, h2⟩ := nC_i h.2.2.2.2.1 h.2.2.2.2.2.1
  refine ⟨?_, pow_lt8 h2, Nat.one_le_two_pow⟩
  rw [h1]
  exact evr_ok _ (by omega)
def sShort (T : TV) (C : CC) : Nat → Nat × Int32
  | 0 => (0, sGone T C 0)
  | k + 1 => if sGone T C (k + 1) < (sShort T C k).2 then (k + 1, sGone T C (k + 1)) else sShort T C k
def sFew (T : TV) (C : CC) (k : Int32) : Nat → Int32 × Int32
  | 0 => (-1, -1)
  | m + 1 => if (sFew T C k m).2 < i32 (cnt m 8) ∧ sGone T C m ≤ k then (i32 m, i32 (cnt m 8)) else sFew T C k m

def sList (T : TV) (C : CC) (w : Int32) : Int32 := if w = 0 then i32 (sLst T C) else if w = 1 then i32 (cnt (sLst T C) 8) else if w = 2 then sGn T C (fun i => !(sLst T C).testBit i) (sLst T C) (nC C) else if w = 3 then sGn T C (fun i => (sLst T C).testBit i) (sLst T C) (nC C) else if w = 4 then sLeft T C else -2
theorem bitP (m : Nat) (h : m < 256) : ∀ i, i < 8 → (i32 m >>> (i32 i &&& 31)) &&& 1 = if (fun i => m.testBit i) i = true then 1 else 0 := fun i hi => bit_ok m h i hi
theorem bitN (m : Nat) (h : m < 256) : ∀ i, i < 8 → ((i32 m ^^^ -1) >>> (i32 i &&& 31)) &&& 1 = if (fun i => !m.testBit i) i = true then 1 else 0 := fun i hi => by
  rw [bitn_ok m h i hi]
  cases hb : m.testBit i <;> simp [hb]
theorem sList_0 {T : TV} {C : CC} {w : Int32} (h : w = 0) : sList T C w = i32 (sLst T C) := by unfold sList; rw [if_pos h]
theorem sList_1 {T : TV} {C : CC} {w : Int32} (h : w = 1) : sList T C w = i32 (cnt (sLst T C) 8) := by subst h; rfl
theorem sList_2 {T : TV} {C : CC} {w : Int32} (h : w = 2) : sList T C w = sGn T C (fun i => !(sLst T C).testBit i) (sLst T C) (nC C) := by subst h; rfl
theorem sList_3 {T : TV} {C : CC} {w : Int32} (h : w = 3) : sList T C w = sGn T C (fun i => (sLst T C).testBit i) (sLst T C) (nC C) := by subst h; rfl
theorem sList_4 {T : TV} {C : CC} {w : Int32} (h : w = 4) : sList T C w = sLeft T C := by subst h; rfl
theorem sList_9 {T : TV} {C : CC} {w : Int32} (h0 : ¬ w = 0) (h1 : ¬ w = 1) (h2 : ¬ w = 2) (h3 : ¬ w = 3) (h4 : ¬ w = 4) : sList T C w = -2 := by unfold sList; rw [if_neg h0, if_neg h1, if_neg h2, if_neg h3, if_neg h4]

theorem c_xlist {w : Int32} {I : I2} {J : J2} {T : TV} (hC : Cok I 7 T) : CT mX6_list 7 58 58 [.ref 0, .int w] I J RF (RP RF (fun r I1 J1 => r = sList T (cOf I 7) w ∧ J1 = J ∧ Scr I I1)) := by
  obtain ⟨hN8, hM6⟩ := nC8 hC
  obtain ⟨hev, hp, hp1⟩ := evr hC
  
  refine CT_of okX6_list (Nat.le_of_ble_eq_true rfl) ?_
  show V _ _ _ _ _ _ [(0, _), (1, _)] _ _ _ _ _
  refine V_go 2 rfl ?_
  refine cVP (mt' := mX0_listed) rfl kX6_111 fX0_listed rfl rfl rfl (Nat.le_of_ble_eq_true rfl) (Nat.le_of_ble_eq_true rfl) (Nat.le_of_ble_eq_true rfl) (Nat.le_of_ble_eq_true rfl) (Nat.le_refl _) (c_listed hC) ?_
  intro r1 Ir1 Jr1 h1
  obtain ⟨rfl, rfl, hq⟩ := h1
  refine V_go 2 rfl ?_
  refine V_tswC (v := 0) rfl (by decide) (by decide) rfl (fun h3 => ?_) (fun h3 => ?_)
  · skip
    refine V_go 1 rfl ?_
    refine V_iret rfl rfl rfl ?_
    exact RP.mk ⟨(sList_0 (by assumption)).symm, rfl, hq.scr7⟩
  refine V_tswC (v := 1) rfl (by decide) (by decide) rfl (fun h4 => ?_) (fun h4 => ?_)
  · skip
    refine V_go 1 rfl ?_
    refine cSI (mt' := mJ6_bitCount_0f7a4) rfl kX6_150 fJ6_bitCount_0f7a4 rfl (Nat.le_of_ble_eq_true rfl) (Nat.le_of_ble_eq_true rfl) (Nat.le_refl _) (c_bitCount) ?_
    refine V_iret rfl rfl rfl ?_
    exact RP.mk ⟨(bitc_all _ (sLs_256 T _ hN8)).trans (sList_1 (by assumption)).symm, rfl, hq.scr7⟩
  refine V_tswC (v := 2) rfl (by decide) (by decide) rfl (fun h6 => ?_) (fun h6 => ?_)
  · skip
    refine V_go 6 rfl ?_
    refine cVP (mt' := mX0_spentOn) rfl kX6_155 fX0_spentOn rfl rfl rfl (Nat.le_of_ble_eq_true rfl) (Nat.le_of_ble_eq_true rfl) (Nat.le_of_ble_eq_true rfl) (Nat.le_of_ble_eq_true rfl) (Nat.le_refl _) (c_spentOn (m := sLst T (cOf I 7)) (p := fun i => !(sLst T (cOf I 7)).testBit i) (hC.sq hq) (bitN _ (sLs_256 T _ hN8)) (sLs_256 T _ hN8)) ?_
    intro r7 Ir7 Jr7 h7
    obtain ⟨hv2, rfl, hq2⟩ := h7
    refine V_iret rfl rfl rfl ?_
    exact RP.mk ⟨by rw [hv2, cOf_sq (Or.inl rfl) hq]; exact (sList_2 (by assumption)).symm, rfl, (hq.tr hq2).scr7⟩
  refine V_tswC (v := 3) rfl (by decide) (by decide) rfl (fun h8 => ?_) (fun h8 => ?_)
  · skip
    refine V_go 4 rfl ?_
    refine cVP (mt' := mX0_spentOn) rfl kX6_155 fX0_spentOn rfl rfl rfl (Nat.le_of_ble_eq_true rfl) (Nat.le_of_ble_eq_true rfl) (Nat.le_of_ble_eq_true rfl) (Nat.le_of_ble_eq_true rfl) (Nat.le_refl _) (c_spentOn (m := sLst T (cOf I 7)) (p := fun i => (sLst T (cOf I 7)).testBit i) (hC.sq hq) (bitP _ (sLs_256 T _ hN8)) (sLs_256 T _ hN8)) ?_
    intro r9 Ir9 Jr9 h9
    obtain ⟨hv2, rfl, hq2⟩ := h9
    refine V_iret rfl rfl rfl ?_
    exact RP.mk ⟨by rw [hv2, cOf_sq (Or.inl rfl) hq]; exact (sList_3 (by assumption)).symm, rfl, (hq.tr hq2).scr7⟩
  refine V_tswC (v := 4) rfl (by decide) (by decide) rfl (fun h10 => ?_) (fun h10 => ?_)
  · skip
    refine V_go 2 rfl ?_
    refine cVP (mt' := mX0_minutesLeft) rfl kX6_158 fX0_minutesLeft rfl rfl rfl (Nat.le_of_ble_eq_true rfl) (Nat.le_of_ble_eq_true rfl) (Nat.le_of_ble_eq_true rfl) (Nat.le_of_ble_eq_true rfl) (Nat.le_refl _) (c_minutesLeft (hC.sq hq)) ?_
    intro r11 Ir11 Jr11 h11
    obtain ⟨hv2, rfl, hq2⟩ := h11
    refine V_iret rfl rfl rfl ?_
    exact RP.mk ⟨by rw [hv2, cOf_sq (Or.inl rfl) hq]; exact (sList_4 (by assumption)).symm, rfl, (hq.tr hq2).scr7⟩
  refine V_tswD rfl (by decide) (by decide) (t9 := 81) rfl (by have q0 := lv_neT h3 (a := 0) (by decide); have q1 := lv_neT h4 (a := 1) (by decide); have q2 := lv_neT h6 (a := 2) (by decide); have q3 := lv_neT h8 (a := 3) (by decide); have q4 := lv_neT h10 (a := 4) (by decide); omega) ?_
  refine V_go 1 rfl ?_
  refine V_iret rfl rfl rfl ?_
  exact RP.mk ⟨(sList_9 (by assumption) (by assumption) (by assumption) (by assumption) (by assumption)).symm, rfl, hq.scr7⟩
end
section
theorem by_bv {n : Nat} (hn : n ≤ 8) (b : BitVec 32) : b &&& ~~~(BitVec.ofNat 32 (2 ^ n - 1)) = 0#32 ↔ b.toNat < 2 ^ n := by
  constructor
  · intro h
    refine Nat.lt_pow_two_of_testBit _ (fun i hi => ?_)
    by_cases h32 : i < 32
    · have h1 := congrArg (fun v => BitVec.getLsbD v i) h
      simp only [BitVec.getLsbD_and, BitVec.getLsbD_not, BitVec.getLsbD_ofNat, BitVec.getLsbD_zero, Nat.zero_testBit, Bool.and_false, Nat.testBit_two_pow_sub_one] at h1
      have h2 : ¬ i < n := by omega
      simp only [h32, h2, decide_true, decide_false, Bool.and_false, Bool.not_false, Bool.and_true, Bool.true_and] at h1
      exact h1
    · exact Nat.testBit_lt_two_pow (Nat.lt_of_lt_of_le b.isLt (Nat.pow_le_pow_right (by omega) (by omega)))
  · intro h
    apply BitVec.eq_of_getLsbD_eq
    intro i hi
    simp only [BitVec.getLsbD_and, BitVec.getLsbD_not, BitVec.getLsbD_ofNat, BitVec.getLsbD_zero, Nat.zero_testBit, Bool.and_false, Nat.testBit_two_pow_sub_one]
    by_cases h2 : i < n
    · simp only [hi, h2, decide_true, Bool.and_true, Bool.not_true, Bool.and_false, Bool.true_and]
    · have h3 : b.getLsbD i = false := Nat.testBit_lt_two_pow (Nat.lt_of_lt_of_le h (Nat.pow_le_pow_right (by omega) (by omega)))
      rw [h3, Bool.false_and]
theorem by_ok {n : Nat} (hn : n ≤ 8) (x : Int32) : x &&& (i32 (2 ^ n - 1) ^^^ -1) = 0 ↔ 0 ≤ x ∧ x < i32 (2 ^ n) := by
  have hb : (x &&& (i32 (2 ^ n - 1) ^^^ -1) = 0) ↔ x.toBitVec &&& ~~~(BitVec.ofNat 32 (2 ^ n - 1)) = 0#32 := by
    rw [← Int32.toBitVec_inj, Int32.toBitVec_and, Int32.toBitVec_xor, show (-1 : Int32).toBitVec = BitVec.allOnes 32 from by decide, BitVec.xor_allOnes]
    rfl
  rw [hb, by_bv hn]
  have h1 : x.toInt = if 2 * x.toBitVec.toNat < 2 ^ 32 then (x.toBitVec.toNat : Int) else (x.toBitVec.toNat : Int) - (2 ^ 32 : Nat) := BitVec.toInt_eq_toNat_cond x.toBitVec
  have h2 := x.toBitVec.isLt
  have h3 := pow_lt8 hn
  have h4 : (i32 (2 ^ n)).toInt = ((2 ^ n : Nat) : Int) := Int32.toInt_ofNat_of_lt (by omega)
  rw [Int32.le_iff_toInt_le, Int32.lt_iff_toInt_lt, Int32.toInt_zero, h4, h1]
  generalize 2 ^ n = q at *
  generalize x.toBitVec.toNat = y at *
  split <;> omega
theorem xn {x : Int32} (h : 0 ≤ x) : i32 x.toNatClampNeg = x := by
  apply Int32.toInt_inj.mp
  have h1 := tcn x h
  have h4 : Lean.Grind.ToInt.toInt x = x.toInt := rfl
  have h2 := x.toInt_lt
  rw [Int32.toInt_ofNat_of_lt (by omega)]
  omega
theorem c_spentByX {x : Int32} {o : Nat} {I : I2} {J : J2} {T : TV} (hC : Cok I o T) (p0 : 0 ≤ x) (p1 : x < 256) : CT mX0_spentBy 6 58 58 [.ref o, .int x] I J RF (RP RF (fun r I1 J1 => r = sGone T (cOf I o) x.toNatClampNeg ∧ J1 = J ∧ Sq o I I1)) := by
  have h := c_spentBy (m := x.toNatClampNeg) (J := J) hC (by grind [tcn])
  rwa [show i32 x.toNatClampNeg = x from xn p0] at h
def sBy (T : TV) (C : CC) (s : Int32) : Int32 := if 0 ≤ s ∧ s < i32 (2 ^ nC C) then sGone T C s.toNatClampNeg else -2
def sRn (T : TV) (C : CC) : Nat → CC × Int32
  | 0 => (C, 0)
  | i + 1 => ((sHold T (sRn T C i).1).1, (sRn T C i).2 + (sHold T (sRn T C i).1).2)
abbrev isIt (C : CC) (x : Int32) : Prop := 0 ≤ x ∧ x < C 0 4
theorem isIt_ok {I : I2} {T : TV} {o : Nat} (h : Cok I o T) (x : Int32) : (0 ≤ x ∧ x < I o 9 ∧ x < 6) ↔ isIt (cOf I o) x := by
  have h6 := h.2.2.2.2.2.2.2
  show _ ↔ 0 ≤ x ∧ x < I o 9
  generalize I o 9 = y at *
  constructor
  · exact fun h => ⟨h.1, h.2.1⟩
  · exact fun h => ⟨h.1, h.2, by grind⟩
abbrev isCi (C : CC) (x : Int32) : Prop := 0 ≤ x ∧ x < C 0 3
theorem isCi_ok {I : I2} {T : TV} {o : Nat} (h : Cok I o T) (x : Int32) : (0 ≤ x ∧ x < I o 5 ∧ x < 8) ↔ isCi (cOf I o) x := by
  have h6 := h.2.2.2.2.2.1
  show _ ↔ 0 ≤ x ∧ x < I o 5
  generalize I o 5 = y at *
  constructor
  · exact fun h => ⟨h.1, h.2.1⟩
  · exact fun h => ⟨h.1, h.2, by grind⟩
theorem b2i_c {p q : Prop} [Decidable p] [Decidable q] (h : p ↔ q) : b2i p = b2i q := by
  unfold b2i
  simp only [h]
theorem isIt_n {C : CC} {x : Int32} (h : isIt C x) : x.toNatClampNeg < mC C ∧ x = i32 x.toNatClampNeg := by
  have h : 0 ≤ x ∧ x < C 0 4 := h
  unfold mC
  generalize C 0 4 = y at *
  refine ⟨?_, (xn h.1).symm⟩
  have h1 := tcn x h.1
  have h2 := tcn y (by grind)
  have h3 := Int32.lt_iff_toInt_lt.mp h.2
  have h4 : Lean.Grind.ToInt.toInt x = x.toInt := rfl
  have h5 : Lean.Grind.ToInt.toInt y = y.toInt := rfl
  omega
theorem isCi_n {C : CC} {x : Int32} (h : isCi C x) : x.toNatClampNeg < nC C ∧ x = i32 x.toNatClampNeg := by
  have h : 0 ≤ x ∧ x < C 0 3 := h
  unfold nC
  generalize C 0 3 = y at *
  refine ⟨?_, (xn h.1).symm⟩
  have h1 := tcn x h.1
  have h2 := tcn y (by grind)
  have h3 := Int32.lt_iff_toInt_lt.mp h.2
  have h4 : Lean.Grind.ToInt.toInt x = x.toInt := rfl
  have h5 : Lean.Grind.ToInt.toInt y = y.toInt := rfl
  omega
theorem c_by {x : Int32} {I : I2} {J : J2} {T : TV} (hC : Cok I 7 T) : CT mX6_by 8 58 58 [.ref 0, .int x] I J RF (RP RF (fun r I1 J1 => r = sBy T (cOf I 7) x ∧ J1 = J ∧ Scr I I1)) := by
  obtain ⟨hN8, hM6⟩ := nC8 hC
  obtain ⟨hev, hp, hp1⟩ := evr hC
  
  refine CT_of okX6_by (Nat.le_of_ble_eq_true rfl) ?_
  show V _ _ _ _ _ _ [(0, _), (1, _)] _ _ _ _ _
  refine V_go 3 rfl ?_
  refine cVI (mt' := mX0_everyone) rfl kX6_161 fX0_everyone rfl rfl rfl (Nat.le_of_ble_eq_true rfl) (Nat.le_of_ble_eq_true rfl) (Nat.le_of_ble_eq_true rfl) (Nat.le_of_ble_eq_true rfl) (Nat.le_refl _) (c_everyone (by unfold oC; decide)) ?_
  refine V_go 3 rfl ?_
  refine V_if_ne rfl (fun h2 => ?_) (fun h2 => ?_)
  · skip
    have hby : ¬ (0 ≤ x ∧ x < i32 (2 ^ nC (cOf I 7))) := by
      rw [hev] at h2
      exact fun h => h2 ((by_ok hN8 x).mpr h)
    refine V_go 1 rfl ?_
    refine V_iret rfl rfl rfl ?_
    first
      | exact RP.mk ⟨by rw [hv]; unfold sBy; rw [if_pos hby], rfl, hq.scr7⟩
      | exact RP.mk ⟨by unfold sBy; rw [if_neg hby], rfl, Scr.rf⟩
  · skip
    have hby : 0 ≤ x ∧ x < i32 (2 ^ nC (cOf I 7)) := by
      rw [hev] at h2
      exact (by_ok hN8 x).mp (by simpa using h2)
    refine V_go 3 rfl ?_
    refine cVP (mt' := mX0_spentBy) rfl kX6_164 fX0_spentBy rfl rfl rfl (Nat.le_of_ble_eq_true rfl) (Nat.le_of_ble_eq_true rfl) (Nat.le_of_ble_eq_true rfl) (Nat.le_of_ble_eq_true rfl) (Nat.le_refl _) (c_spentByX hC hby.1 (by have h := hby.2; have := hp; grind [i32_ti])) ?_
    intro r3 Ir3 Jr3 h3
    obtain ⟨hv, rfl, hq⟩ := h3
    refine V_go 1 rfl ?_
    refine V_iret rfl rfl rfl ?_
    first
      | exact RP.mk ⟨by rw [hv]; unfold sBy; rw [if_pos hby], rfl, hq.scr7⟩
      | exact RP.mk ⟨by unfold sBy; rw [if_neg hby], rfl, Scr.rf⟩
end
section
def sSit (T : TV) (C : CC) : CC × Int32 := if C 0 0 < 999 then ((sHold T C).1, sCntD (sHold T C).1 (mC (sHold T C).1) - sCntD C (mC C)) else (C, -3)
theorem c_sit  {I : I2} {J : J2} {T : TV} (hC : Cok I 7 T) : CT mX6_sit 9 58 58 [.ref 0] I J RF (RP RF (fun r I1 J1 => r = (sSit T (cOf I 7)).2 ∧ J1 = J ∧ cOf I1 7 = (sSit T (cOf I 7)).1 ∧ Fr 7 I I1)) := by
  obtain ⟨hN8, hM6⟩ := nC8 hC
  obtain ⟨hev, hp, hp1⟩ := evr hC
  
  refine CT_of okX6_sit (Nat.le_of_ble_eq_true rfl) ?_
  show V _ _ _ _ _ _ [(0, _)] _ _ _ _ _
  refine V_go 4 rfl ?_
  refine V_icmp_lt rfl (fun h1 => ?_) (fun h1 => ?_)
  · skip
    refine V_go 2 rfl ?_
    refine cVI (mt' := mX0_itemsDone) rfl kX6_167 fX0_itemsDone rfl rfl rfl (Nat.le_of_ble_eq_true rfl) (Nat.le_of_ble_eq_true rfl) (Nat.le_of_ble_eq_true rfl) (Nat.le_of_ble_eq_true rfl) (Nat.le_refl _) (c_itemsDone hC) ?_
    refine V_go 3 rfl ?_
    refine cVP (mt' := mX0_hold) rfl kX6_170 fX0_hold rfl rfl rfl (Nat.le_of_ble_eq_true rfl) (Nat.le_of_ble_eq_true rfl) (Nat.le_of_ble_eq_true rfl) (Nat.le_of_ble_eq_true rfl) (Nat.le_refl _) (c_hold hC) ?_
    intro r3 Ir3 Jr3 h3
    obtain ⟨hv, hc2, rfl, hq⟩ := h3
    refine V_go 3 rfl ?_
    refine cVI (mt' := mX0_itemsDone) rfl kX6_167 fX0_itemsDone rfl rfl rfl (Nat.le_of_ble_eq_true rfl) (Nat.le_of_ble_eq_true rfl) (Nat.le_of_ble_eq_true rfl) (Nat.le_of_ble_eq_true rfl) (Nat.le_refl _) (c_itemsDone (hC.frq hq (fun j hj => by rw [hc2]; exact sHold_0 _ _ _ hj))) ?_
    refine V_go 2 rfl ?_
    refine V_iret rfl rfl rfl ?_
    exact RP.mk ⟨by unfold sSit; rw [if_pos (show cOf I 7 0 0 < 999 from by assumption), hc2], rfl, by unfold sSit; rw [if_pos (show cOf I 7 0 0 < 999 from by assumption), hc2], hq⟩
  · skip
    refine V_go 1 rfl ?_
    refine V_iret rfl rfl rfl ?_
    exact RP.mk ⟨by unfold sSit; rw [if_neg (show ¬ cOf I 7 0 0 < 999 from by assumption)], rfl, by unfold sSit; rw [if_neg (show ¬ cOf I 7 0 0 < 999 from by assumption)], Fr.rf⟩
theorem sRn_0 (T : TV) (C : CC) (j : Nat) (hj : j ≠ 0) : ∀ i, (sRn T C i).1 0 j = C 0 j
  | 0 => rfl
  | i + 1 => by
    simp only [sRn]
    rw [sHold_0 _ _ _ hj, sRn_0 T C j hj i]
theorem sRn_nm (T : TV) (C : CC) (i : Nat) : nC (sRn T C i).1 = nC C ∧ mC (sRn T C i).1 = mC C := by
  unfold nC mC
  rw [sRn_0 T C 3 (by omega), sRn_0 T C 4 (by omega)]
  exact ⟨rfl, rfl⟩
def sRun (T : TV) (C : CC) (x w : Int32) : Int32 := if (0 ≤ x ∧ x ≤ 40) ∧ (w = 0 ∨ w = 1 ∨ isIt C (w - 10)) then (if isIt C (w - 10) then (sRn T C x.toNatClampNeg).1 6 (w - 10).toNatClampNeg else if w = 0 then sCntD (sRn T C x.toNatClampNeg).1 (mC C) else (sRn T C x.toNatClampNeg).2) else -2
/-- the frame, the thought council in line with C -/
def Th (I I1 : I2) (T : TV) (C : CC) : Prop := Cq 8 6 (cOf I1 15) C ∧ Cok I1 15 T ∧ Scr I I1
theorem Th.nm {I I1 : I2} {T : TV} {C : CC} (h : Th I I1 T C) : nC (cOf I1 15) = nC C ∧ mC (cOf I1 15) = mC C ∧ nC C ≤ 8 ∧ mC C ≤ 6 := ⟨h.1.nC, h.1.mC, h.1.nC ▸ (nC8 h.2.1).1, h.1.mC ▸ (nC8 h.2.1).2⟩
theorem Th.n8 {I I1 : I2} {T : TV} {C : CC} (h : Th I I1 T C) : nC (cOf I1 15) ≤ 8 ∧ mC (cOf I1 15) ≤ 6 := nC8 h.2.1
theorem Th.bec {I I0 I1 : I2} {T : TV} (h : Cok I 7 T) (s : Scr I0 I) (q : Fr 15 I I1) (e : Cq 8 6 (cOf I1 15) (cOf I 7)) : Th I0 I1 T (cOf I 7) := ⟨e, h.bec q e, s.tr q.scr15⟩
theorem Th.hold {I I1 I9 : I2} {T : TV} {C : CC} (h : Th I I1 T C) (hc : cOf I9 15 = (sHold T (cOf I1 15)).1) (q : Fr 15 I1 I9) : Th I I9 T (sHold T C).1 := by
  refine ⟨?_, h.2.1.frq q (fun j hj => by rw [hc]; exact sHold_0 _ _ _ hj), h.2.2.tr q.scr15⟩
  rw [hc]
  exact (h.1.hold h.n8.1 h.n8.2).1
theorem Th.hold2 {I I1 : I2} {T : TV} {C : CC} (h : Th I I1 T C) : (sHold T (cOf I1 15)).2 = (sHold T C).2 := (h.1.hold h.n8.1 h.n8.2).2
theorem run_f {w : Int32} (h0 : ¬ w = 0) (h1 : ¬ w = 1) {C : CC} (h2 : b2i (isIt C (w - 10)) = 0) : ¬ (w = 0 ∨ w = 1 ∨ isIt C (w - 10)) := by
  intro h
  rcases h with h | h | h
  · exact h0 h
  · exact h1 h
  · exact absurd (b2i_1 h) (by rw [h2]; decide)

theorem c_doneAtX {x : Int32} {o : Nat} {I : I2} {J : J2} {T : TV} (hC : Cok I o T) (hx : 0 ≤ x ∧ x < I o 9 ∧ x < 6) : CT mX0_doneAt 2 58 58 [.ref o, .int x] I J RF (RI RF (I (o + 7) x.toNatClampNeg) I J) := by
  have h := c_doneAt (x := x) (I := I) (J := J) hC.1
  rwa [if_pos hx] at h
theorem c_run {x w : Int32} {I : I2} {J : J2} {T : TV} (hC : Cok I 7 T) : CT mX6_run 9 58 58 [.ref 0, .int x, .int w] I J RF (RP RF (fun r I1 J1 => r = sRun T (cOf I 7) x w ∧ J1 = J ∧ Scr I I1)) := by
  obtain ⟨hN8, hM6⟩ := nC8 hC
  obtain ⟨hev, hp, hp1⟩ := evr hC
  refine CT_of okX6_run (Nat.le_of_ble_eq_true rfl) ?_
  show V _ _ _ _ _ _ [(0, _), (1, _), (2, _)] _ _ _ _ _
  have k38 : (0 ≤ x ∧ x ≤ 40) → (w = 0 ∨ w = 1 ∨ isIt (cOf I 7) (w - 10)) → V mX6_run none 9 58 (RP RF (fun r I1 J1 => r = sRun T (cOf I 7) x w ∧ J1 = J ∧ Scr I I1)) 38 [(0, .ref 0), (1, .int x), (2, .int w), (3, .int (b2i (0 ≤ w - 10 ∧ w - 10 < I 7 9 ∧ w - 10 < 6)))] [] 58 I J RF := by
    intro p0 pw
    have px := xn p0.1
    have p40 : x.toNatClampNeg ≤ 40 := by have := tcn x p0.1; grind
    have key : ∀ n, Hid (∀ (i : Nat) (I1 : I2), i + n = x.toNatClampNeg → Th I I1 T (sRn T (cOf I 7) i).1 → V mX6_run none 9 58 (RP RF (fun r I1 J1 => r = sRun T (cOf I 7) x w ∧ J1 = J ∧ Scr I I1)) 55 [(0, .ref 0), (1, .int x), (2, .int w), (3, .int (b2i (0 ≤ w - 10 ∧ w - 10 < I 7 9 ∧ w - 10 < 6))), (4, .int (sRn T (cOf I 7) (i)).2), (5, .int (i32 (i)))] [] 58 I1 J RF) := by
        intro n
        induction n with
        | zero =>
          unfold Hid
          intro i I1 hi hs
          obtain ⟨hN, hM, hn8, hm6⟩ := hs.nm
          obtain ⟨rn, rm⟩ := sRn_nm T (cOf I 7) i
          refine V_go 2 rfl ?_
          refine V_icmp_ge rfl (fun h1 => ?_) (fun h1 => ?_)
          · skip
            refine V_go 1 rfl ?_
            refine V_if_eq rfl (fun h2 => ?_) (fun h2 => ?_)
            · skip
              have hit : ¬ isIt (cOf I 7) (w - 10) := fun h => absurd (b2i_1 ((isIt_ok hC _).mpr h)) (by rw [h2]; decide)
              refine V_go 1 rfl ?_
              refine V_if_ne rfl (fun h3 => ?_) (fun h3 => ?_)
              · skip
                refine V_go 1 rfl ?_
                refine V_iret rfl rfl rfl ?_
                refine RP.mk ⟨?_, rfl, hs.2.2⟩
                unfold sRun
                rw [if_pos ⟨p0, pw⟩, if_neg hit, show x.toNatClampNeg = i from hi.symm]
                first
                  | (rw [if_pos (by assumption), hs.1.cntD _ hs.n8.2, hM, rm]; done)
                  | rw [if_neg (by assumption)]
              · skip
                refine V_go 2 rfl ?_
                refine cVI (mt' := mX0_itemsDone) rfl kX6_167 fX0_itemsDone rfl rfl rfl (Nat.le_of_ble_eq_true rfl) (Nat.le_of_ble_eq_true rfl) (Nat.le_of_ble_eq_true rfl) (Nat.le_of_ble_eq_true rfl) (Nat.le_refl _) (c_itemsDone hs.2.1) ?_
                refine V_go 1 rfl ?_
                refine V_iret rfl rfl rfl ?_
                refine RP.mk ⟨?_, rfl, hs.2.2⟩
                unfold sRun
                rw [if_pos ⟨p0, pw⟩, if_neg hit, show x.toNatClampNeg = i from hi.symm]
                first
                  | (rw [if_pos (by assumption), hs.1.cntD _ hs.n8.2, hM, rm]; done)
                  | rw [if_neg (by assumption)]
            · skip
              have hit : isIt (cOf I 7) (w - 10) := (isIt_ok hC _).mp (b2i_eq1.mp ((b2i_or _).resolve_left h2))
              refine V_go 5 rfl ?_
              refine cVI (mt' := mX0_doneAt) rfl kX6_131 fX0_doneAt rfl rfl rfl (Nat.le_of_ble_eq_true rfl) (Nat.le_of_ble_eq_true rfl) (Nat.le_of_ble_eq_true rfl) (Nat.le_of_ble_eq_true rfl) (Nat.le_refl _) (c_doneAtX hs.2.1 (x := w - 10) ((isIt_ok hs.2.1 _).mpr (by show 0 ≤ w - 10 ∧ w - 10 < cOf I1 15 0 4; rw [hs.1.1 4 (by omega), sRn_0 _ _ _ (by omega)]; exact hit))) ?_
              refine V_iret rfl rfl rfl ?_
              refine RP.mk ⟨?_, rfl, hs.2.2⟩
              unfold sRun
              rw [if_pos ⟨p0, pw⟩, if_pos hit]
              obtain ⟨e1, e2⟩ := isIt_n hit
              rw [show x.toNatClampNeg = i from hi.symm]
              exact hs.1.2.2 6 _ (by omega) (by omega) (by omega)
          · skip
            exfalso
            exact h1 (by rw [← px, show x.toNatClampNeg = i from hi.symm]; exact Int32.le_refl _)
        | succ n ih =>
          unfold Hid
          intro i I1 hi hs
          obtain ⟨hN, hM, hn8, hm6⟩ := hs.nm
          obtain ⟨rn, rm⟩ := sRn_nm T (cOf I 7) i
          refine V_go 2 rfl ?_
          refine V_icmp_ge rfl (fun h1 => ?_) (fun h1 => ?_)
          · skip
            exfalso
            rw [← px] at h1
            exact lp_more (i := i) (N := x.toNatClampNeg) (by omega) (by omega) h1
          · skip
            refine V_go 3 rfl ?_
            refine cVP (mt' := mX0_hold) rfl kX6_170 fX0_hold rfl rfl rfl (Nat.le_of_ble_eq_true rfl) (Nat.le_of_ble_eq_true rfl) (Nat.le_of_ble_eq_true rfl) (Nat.le_of_ble_eq_true rfl) (Nat.le_refl _) (c_hold hs.2.1) ?_
            intro r2 Ir2 Jr2 h2
            obtain ⟨hv, hc2, rfl, hq2⟩ := h2
            refine V_go 4 rfl ?_
            refine V.st (I' := Ir2) (L' := [(0, .ref 0), (1, .int x), (2, .int w), (3, .int (b2i (0 ≤ w - 10 ∧ w - 10 < I 7 9 ∧ w - 10 < 6))), (4, .int (sRn T (cOf I 7) (i + 1)).2), (5, .int (i32 (i + 1)))]) (ih.un (i + 1) Ir2 (by omega) (hs.hold hc2 hq2)) rfl ?_
            rw [i32_s, hv, hs.hold2]
            simp [sRn]
    refine V_go 4 rfl ?_
    refine cVW (mt' := mX0_become) rfl kX6_173 fX0_become rfl rfl rfl (Nat.le_of_ble_eq_true rfl) (Nat.le_of_ble_eq_true rfl) (Nat.le_of_ble_eq_true rfl) (Nat.le_of_ble_eq_true rfl) (Nat.le_refl _) (c_become_15_7) ?_
    intro Ir1 Jr1 h1
    obtain ⟨rfl, hc, hq⟩ := h1
    refine V_go 4 rfl ?_
    exact (key _).un 0 _ (Nat.zero_add _) (Th.bec hC Scr.rf hq hc)
  refine V_go 5 rfl ?_
  refine cVI (mt' := mX0_hasItem) rfl kX6_96 fX0_hasItem rfl rfl rfl (Nat.le_of_ble_eq_true rfl) (Nat.le_of_ble_eq_true rfl) (Nat.le_of_ble_eq_true rfl) (Nat.le_of_ble_eq_true rfl) (Nat.le_refl _) (c_hasItem hC.1) ?_
  refine V_go 2 rfl ?_
  refine V_if_lt rfl (fun h2 => ?_) (fun h2 => ?_)
  · skip
    refine V_go 1 rfl ?_
    refine V_iret rfl rfl rfl ?_
    refine RP.mk ⟨?_, rfl, Scr.rf⟩
    unfold sRun
    refine (if_neg ?_).symm
    rintro ⟨⟨_, _⟩, hh⟩
    first
      | grind
      | exact run_f (by assumption) (by assumption) ((b2i_c (isIt_ok hC _)).symm.trans (by assumption)) hh
  · skip
    refine V_go 2 rfl ?_
    refine V_icmp_gt rfl (fun h3 => ?_) (fun h3 => ?_)
    · skip
      refine V_go 1 rfl ?_
      refine V_iret rfl rfl rfl ?_
      refine RP.mk ⟨?_, rfl, Scr.rf⟩
      unfold sRun
      refine (if_neg ?_).symm
      rintro ⟨⟨_, _⟩, hh⟩
      first
        | grind
        | exact run_f (by assumption) (by assumption) ((b2i_c (isIt_ok hC _)).symm.trans (by assumption)) hh
    · skip
      refine V_go 1 rfl ?_
      refine V_if_eq rfl (fun h4 => ?_) (fun h4 => ?_)
      · skip
        refine k38 ⟨Int32.not_lt.mp (by assumption), Int32.not_lt.mp (by assumption)⟩ ?_
        first
          | (left; assumption)
          | (right; left; assumption)
          | exact Or.inr (Or.inr ((isIt_ok hC _).mp (b2i_eq1.mp ((b2i_or _).resolve_left (by assumption)))))
      · skip
        refine V_go 2 rfl ?_
        refine V_icmp_eq rfl (fun h5 => ?_) (fun h5 => ?_)
        · skip
          refine k38 ⟨Int32.not_lt.mp (by assumption), Int32.not_lt.mp (by assumption)⟩ ?_
          first
            | (left; assumption)
            | (right; left; assumption)
            | exact Or.inr (Or.inr ((isIt_ok hC _).mp (b2i_eq1.mp ((b2i_or _).resolve_left (by assumption)))))
        · skip
          refine V_go 1 rfl ?_
          refine V_if_ne rfl (fun h6 => ?_) (fun h6 => ?_)
          · skip
            refine k38 ⟨Int32.not_lt.mp (by assumption), Int32.not_lt.mp (by assumption)⟩ ?_
            first
              | (left; assumption)
              | (right; left; assumption)
              | exact Or.inr (Or.inr ((isIt_ok hC _).mp (b2i_eq1.mp ((b2i_or _).resolve_left (by assumption)))))
          · skip
            refine V_go 1 rfl ?_
            refine V_iret rfl rfl rfl ?_
            refine RP.mk ⟨?_, rfl, Scr.rf⟩
            unfold sRun
            refine (if_neg ?_).symm
            rintro ⟨⟨_, _⟩, hh⟩
            first
              | grind
              | exact run_f (by assumption) (by assumption) ((b2i_c (isIt_ok hC _)).symm.trans (by assumption)) hh
end
section
theorem pw1 {n : Nat} (hn : n ≤ 8) : 2 ^ n - 1 < 256 := by have := pow_lt8 hn; omega
def sShortest (T : TV) (C : CC) (w : Int32) : Int32 := if w = 0 ∨ w = 1 then (if w = 0 then i32 (sShort T C (2 ^ nC C - 1)).1 else (sShort T C (2 ^ nC C - 1)).2) else -2
theorem sShort_0 (T : TV) (C : CC) {k : Nat} (h : sGone T C (k + 1) < (sShort T C k).2) : sShort T C (k + 1) = (k + 1, sGone T C (k + 1)) := by rw [sShort, if_pos h]
theorem sShort_1 (T : TV) (C : CC) {k : Nat} (h : ¬ sGone T C (k + 1) < (sShort T C k).2) : sShort T C (k + 1) = sShort T C k := by rw [sShort, if_neg h]
theorem c_shortest {w : Int32} {I : I2} {J : J2} {T : TV} (hC : Cok I 7 T) : CT mX6_shortest 8 58 58 [.ref 0, .int w] I J RF (RP RF (fun r I1 J1 => r = sShortest T (cOf I 7) w ∧ J1 = J ∧ Scr I I1)) := by
  obtain ⟨hN8, hM6⟩ := nC8 hC
  obtain ⟨hev, hp, hp1⟩ := evr hC
  have k12 : (w = 0 ∨ w = 1) → V mX6_shortest none 8 58 (RP RF (fun r I1 J1 => r = sShortest T (cOf I 7) w ∧ J1 = J ∧ Scr I I1)) 12 [(0, .ref 0), (1, .int w)] [] 58 I J RF := by
    intro pw
    have key : ∀ n, Hid (∀ (i : Nat) (I1 : I2), i + n = 2 ^ nC (cOf I 7) - 1 → Sq 7 I I1 → V mX6_shortest none 8 58 (RP RF (fun r I1 J1 => r = sShortest T (cOf I 7) w ∧ J1 = J ∧ Scr I I1)) 35 [(0, .ref 0), (1, .int w), (2, .int (i32 (2 ^ nC (cOf I 7) - 1))), (3, .int (i32 (sShort T (cOf I 7) (i)).1)), (4, .int (sShort T (cOf I 7) (i)).2), (5, .int (i32 (i + 1)))] [] 58 I1 J RF) := by
      intro n
      induction n with
      | zero =>
        unfold Hid
        intro i I1 hi hq
        refine V_go 2 rfl ?_
        refine V_icmp_gt rfl (fun h1 => ?_) (fun h1 => ?_)
        · skip
          refine V_go 1 rfl ?_
          refine V_if_ne rfl (fun h2 => ?_) (fun h2 => ?_)
          · skip
            refine V_go 1 rfl ?_
            refine V_iret rfl rfl rfl ?_
            refine RP.mk ⟨?_, rfl, hq.scr7⟩
            unfold sShortest
            rw [if_pos pw, show 2 ^ nC (cOf I 7) - 1 = i from hi.symm]
            first
              | (rw [if_pos (by assumption)]; done)
              | (rw [if_neg (by assumption)]; done)
          · skip
            refine V_go 2 rfl ?_
            refine V_iret rfl rfl rfl ?_
            refine RP.mk ⟨?_, rfl, hq.scr7⟩
            unfold sShortest
            rw [if_pos pw, show 2 ^ nC (cOf I 7) - 1 = i from hi.symm]
            first
              | (rw [if_pos (by assumption)]; done)
              | (rw [if_neg (by assumption)]; done)
        · skip
          exfalso
          exact h1 (by grind [i32_ti])
      | succ n ih =>
        unfold Hid
        intro i I1 hi hq
        refine V_go 2 rfl ?_
        refine V_icmp_gt rfl (fun h1 => ?_) (fun h1 => ?_)
        · skip
          exfalso
          rw [i32_s] at h1
          have := pw1 hN8
          grind [i32_ti]
        · skip
          refine V_go 3 rfl ?_
          refine cVP (mt' := mX0_spentBy) rfl kX6_164 fX0_spentBy rfl rfl rfl (Nat.le_of_ble_eq_true rfl) (Nat.le_of_ble_eq_true rfl) (Nat.le_of_ble_eq_true rfl) (Nat.le_of_ble_eq_true rfl) (Nat.le_refl _) (c_spentBy (m := i + 1) (hC.sq hq) (by have := pw1 hN8; omega)) ?_
          intro r2 Ir2 Jr2 h2
          obtain ⟨hv, rfl, hq2⟩ := h2
          rw [cOf_sq (Or.inl rfl) hq] at hv
          subst hv
          refine V_go 3 rfl ?_
          refine V_icmp_ge rfl (fun h3 => ?_) (fun h3 => ?_)
          · skip
            rcases Decidable.em (sGone T (cOf I 7) (i + 1) < (sShort T (cOf I 7) i).2) with hw | hw
            · exact absurd hw (by grind)
            refine V_go 2 rfl ?_
            refine V.st (I' := Ir2) (L' := [(0, .ref 0), (1, .int w), (2, .int (i32 (2 ^ nC (cOf I 7) - 1))), (3, .int (i32 (sShort T (cOf I 7) (i + 1)).1)), (4, .int (sShort T (cOf I 7) (i + 1)).2), (5, .int (i32 (i + 1 + 1)))]) (ih.un (i + 1) Ir2 (by omega) (hq.tr hq2)) rfl ?_
            rw [i32_s, sShort_1 _ _ hw]
            simp
          · skip
            refine V_go 6 rfl ?_
            refine V.st (I' := Ir2) (L' := [(0, .ref 0), (1, .int w), (2, .int (i32 (2 ^ nC (cOf I 7) - 1))), (3, .int (i32 (sShort T (cOf I 7) (i + 1)).1)), (4, .int (sShort T (cOf I 7) (i + 1)).2), (5, .int (i32 (i + 1 + 1)))]) (ih.un (i + 1) Ir2 (by omega) (hq.tr hq2)) rfl ?_
            rw [i32_s, sShort_0 _ _ (by grind)]
            simp [i32_s]
    refine V_go 2 rfl ?_
    refine cVI (mt' := mX0_everyone) rfl kX6_161 fX0_everyone rfl rfl rfl (Nat.le_of_ble_eq_true rfl) (Nat.le_of_ble_eq_true rfl) (Nat.le_of_ble_eq_true rfl) (Nat.le_of_ble_eq_true rfl) (Nat.le_refl _) (c_everyone (by unfold oC; decide)) ?_
    rw [hev]
    refine V_go 6 rfl ?_
    refine cVP (mt' := mX0_spentBy) rfl kX6_164 fX0_spentBy rfl rfl rfl (Nat.le_of_ble_eq_true rfl) (Nat.le_of_ble_eq_true rfl) (Nat.le_of_ble_eq_true rfl) (Nat.le_of_ble_eq_true rfl) (Nat.le_refl _) (c_spentBy (m := 0) hC (by omega)) ?_
    intro r2 Ir2 Jr2 h2
    obtain ⟨hv, rfl, hq⟩ := h2
    subst hv
    refine V_go 3 rfl ?_
    exact (key _).un 0 _ (Nat.zero_add _) hq
  refine CT_of okX6_shortest (Nat.le_of_ble_eq_true rfl) ?_
  show V _ _ _ _ _ _ [(0, _), (1, _)] _ _ _ _ _
  refine V_go 1 rfl ?_
  refine V_if_eq rfl (fun h1 => ?_) (fun h1 => ?_)
  · skip
    exact k12 (by first | exact Or.inl (by assumption) | exact Or.inr (by assumption))
  · skip
    refine V_go 2 rfl ?_
    refine V_icmp_eq rfl (fun h2 => ?_) (fun h2 => ?_)
    · skip
      exact k12 (by first | exact Or.inl (by assumption) | exact Or.inr (by assumption))
    · skip
      refine V_go 1 rfl ?_
      refine V_iret rfl rfl rfl ?_
      refine RP.mk ⟨?_, rfl, Scr.rf⟩
      unfold sShortest
      rw [if_neg (fun h => by rcases h with h | h <;> contradiction)]
end
section
def sFewest (T : TV) (C : CC) (k : Int32) : Int32 := if 0 ≤ k ∧ k ≤ 999 then (sFew T C k (2 ^ nC C)).1 else -2
theorem sFew_0 (T : TV) (C : CC) {k : Int32} {m : Nat} (h : (sFew T C k m).2 < i32 (cnt m 8)) (h2 : sGone T C m ≤ k) : sFew T C k (m + 1) = (i32 m, i32 (cnt m 8)) := by rw [sFew, if_pos ⟨h, h2⟩]
theorem sFew_1 (T : TV) (C : CC) {k : Int32} {m : Nat} (h : ¬ (sFew T C k m).2 < i32 (cnt m 8)) : sFew T C k (m + 1) = sFew T C k m := by rw [sFew, if_neg (fun h' => h h'.1)]
theorem sFew_2 (T : TV) (C : CC) {k : Int32} {m : Nat} (h : ¬ sGone T C m ≤ k) : sFew T C k (m + 1) = sFew T C k m := by rw [sFew, if_neg (fun h' => h h'.2)]
theorem c_fewest {x : Int32} {I : I2} {J : J2} {T : TV} (hC : Cok I 7 T) : CT mX6_fewest 8 58 58 [.ref 0, .int x] I J RF (RP RF (fun r I1 J1 => r = sFewest T (cOf I 7) x ∧ J1 = J ∧ Scr I I1)) := by
  obtain ⟨hN8, hM6⟩ := nC8 hC
  obtain ⟨hev, hp, hp1⟩ := evr hC
  have k14 : (0 ≤ x ∧ x ≤ 999) → V mX6_fewest none 8 58 (RP RF (fun r I1 J1 => r = sFewest T (cOf I 7) x ∧ J1 = J ∧ Scr I I1)) 14 [(0, .ref 0), (1, .int x)] [] 58 I J RF := by
    intro pw
    have key : ∀ n, Hid (∀ (i : Nat) (I1 : I2), i + n = 2 ^ nC (cOf I 7) → Sq 7 I I1 → V mX6_fewest none 8 58 (RP RF (fun r I1 J1 => r = sFewest T (cOf I 7) x ∧ J1 = J ∧ Scr I I1)) 30 [(0, .ref 0), (1, .int x), (2, .int (i32 (2 ^ nC (cOf I 7) - 1))), (3, .int (sFew T (cOf I 7) x (i)).1), (4, .int (sFew T (cOf I 7) x (i)).2), (5, .int (i32 (i)))] [] 58 I1 J RF) := by
      intro n
      induction n with
      | zero =>
        unfold Hid
        intro i I1 hi hq
        refine V_go 2 rfl ?_
        refine V_icmp_gt rfl (fun h1 => ?_) (fun h1 => ?_)
        · skip
          refine V_go 1 rfl ?_
          refine V_iret rfl rfl rfl ?_
          refine RP.mk ⟨?_, rfl, hq.scr7⟩
          unfold sFewest
          rw [if_pos pw, show 2 ^ nC (cOf I 7) = i from hi.symm]
        · skip
          exfalso
          exact h1 (by have := pw1 hN8; grind [i32_ti])
      | succ n ih =>
        unfold Hid
        intro i I1 hi hq
        refine V_go 2 rfl ?_
        refine V_icmp_gt rfl (fun h1 => ?_) (fun h1 => ?_)
        · skip
          exfalso
          have := pw1 hN8
          grind [i32_ti]
        · skip
          refine V_go 1 rfl ?_
          refine cSI (mt' := mJ6_bitCount_0f7a4) rfl kX6_150 fJ6_bitCount_0f7a4 rfl (Nat.le_of_ble_eq_true rfl) (Nat.le_of_ble_eq_true rfl) (Nat.le_refl _) (c_bitCount) ?_
          refine V_go 3 rfl ?_
          refine V_icmp_le rfl (fun h3 => ?_) (fun h3 => ?_)
          · skip
            refine V_go 2 rfl ?_
            rw [bitc_all i (by omega)] at h3
            refine V.st (I' := I1) (L' := [(0, .ref 0), (1, .int x), (2, .int (i32 (2 ^ nC (cOf I 7) - 1))), (3, .int (sFew T (cOf I 7) x (i + 1)).1), (4, .int (sFew T (cOf I 7) x (i + 1)).2), (5, .int (i32 (i + 1)))]) (ih.un (i + 1) I1 (by omega) hq) rfl ?_
            rw [i32_s, sFew_1 _ _ (by grind)]
            simp
          · skip
            refine V_go 3 rfl ?_
            refine cVP (mt' := mX0_spentBy) rfl kX6_164 fX0_spentBy rfl rfl rfl (Nat.le_of_ble_eq_true rfl) (Nat.le_of_ble_eq_true rfl) (Nat.le_of_ble_eq_true rfl) (Nat.le_of_ble_eq_true rfl) (Nat.le_refl _) (c_spentBy (m := i) (hC.sq hq) (by omega)) ?_
            intro r4 Ir4 Jr4 h4
            obtain ⟨hv, rfl, hq2⟩ := h4
            rw [cOf_sq (Or.inl rfl) hq] at hv
            subst hv
            refine V_go 1 rfl ?_
            refine V_icmp_gt rfl (fun h5 => ?_) (fun h5 => ?_)
            · skip
              refine V_go 2 rfl ?_
              refine V.st (I' := Ir4) (L' := [(0, .ref 0), (1, .int x), (2, .int (i32 (2 ^ nC (cOf I 7) - 1))), (3, .int (sFew T (cOf I 7) x (i + 1)).1), (4, .int (sFew T (cOf I 7) x (i + 1)).2), (5, .int (i32 (i + 1)))]) (ih.un (i + 1) Ir4 (by omega) (hq.tr hq2)) rfl ?_
              rw [i32_s, sFew_2 _ _ (by grind)]
              simp
            · skip
              refine V_go 6 rfl ?_
              rw [bitc_all i (by omega)] at *
              refine V.st (I' := Ir4) (L' := [(0, .ref 0), (1, .int x), (2, .int (i32 (2 ^ nC (cOf I 7) - 1))), (3, .int (sFew T (cOf I 7) x (i + 1)).1), (4, .int (sFew T (cOf I 7) x (i + 1)).2), (5, .int (i32 (i + 1)))]) (ih.un (i + 1) Ir4 (by omega) (hq.tr hq2)) rfl ?_
              rw [i32_s, sFew_0 _ _ (by grind) (by grind)]
              simp
    refine V_go 2 rfl ?_
    refine cVI (mt' := mX0_everyone) rfl kX6_161 fX0_everyone rfl rfl rfl (Nat.le_of_ble_eq_true rfl) (Nat.le_of_ble_eq_true rfl) (Nat.le_of_ble_eq_true rfl) (Nat.le_of_ble_eq_true rfl) (Nat.le_refl _) (c_everyone (by unfold oC; decide)) ?_
    rw [hev]
    refine V_go 7 rfl ?_
    exact (key _).un 0 _ (Nat.zero_add _) Sq.rf
  refine CT_of okX6_fewest (Nat.le_of_ble_eq_true rfl) ?_
  show V _ _ _ _ _ _ [(0, _), (1, _)] _ _ _ _ _
  refine V_go 1 rfl ?_
  refine V_if_lt rfl (fun h1 => ?_) (fun h1 => ?_)
  · skip
    refine V_go 1 rfl ?_
    refine V_iret rfl rfl rfl ?_
    refine RP.mk ⟨?_, rfl, Scr.rf⟩
    unfold sFewest
    rw [if_neg (by grind)]
  · skip
    refine V_go 2 rfl ?_
    refine V_icmp_le rfl (fun h2 => ?_) (fun h2 => ?_)
    · skip
      exact k14 ⟨Int32.not_lt.mp (by assumption), by assumption⟩
    · skip
      refine V_go 1 rfl ?_
      refine V_iret rfl rfl rfl ?_
      refine RP.mk ⟨?_, rfl, Scr.rf⟩
      unfold sFewest
      rw [if_neg (by grind)]
def sTurn (T : TV) (C : CC) (m : Nat) : Nat → Int32 × Int32
  | 0 => (-1, -1)
  | i + 1 => if (sTurn T C m i).1 = -1 ∨ sGone T C (m ^^^ 2 ^ i) < (sTurn T C m i).2 then (i32 i, sGone T C (m ^^^ 2 ^ i)) else sTurn T C m i
def sTurned (T : TV) (C : CC) (w : Int32) : Int32 := if w = 0 ∨ w = 1 then (if w = 0 then (sTurn T C (sLst T C) (nC C)).1 else (sTurn T C (sLst T C) (nC C)).2) else -2
theorem xor_ok : ∀ i, i < 8 → ∀ m, m < 256 → i32 m ^^^ (1 : Int32) <<< (i32 i &&& 31) = i32 (m ^^^ 2 ^ i) ∧ m ^^^ 2 ^ i < 256 := by decide +kernel
theorem sTurn_0 (T : TV) (C : CC) {m i : Nat} (h : (sTurn T C m i).1 = -1 ∨ sGone T C (m ^^^ 2 ^ i) < (sTurn T C m i).2) : sTurn T C m (i + 1) = (i32 i, sGone T C (m ^^^ 2 ^ i)) := by rw [sTurn, if_pos h]
theorem sTurn_1 (T : TV) (C : CC) {m i : Nat} (h1 : ¬ (sTurn T C m i).1 = -1) (h2 : ¬ sGone T C (m ^^^ 2 ^ i) < (sTurn T C m i).2) : sTurn T C m (i + 1) = sTurn T C m i := by rw [sTurn, if_neg (fun h => h.elim h1 h2)]
theorem c_spentByT {x : Int32} {m : Nat} {I : I2} {J : J2} {T : TV} (hC : Cok I 7 T) (e : x = i32 m) (h : m < 256) : CT mX0_spentBy 6 58 58 [.ref 7, .int x] I J RF (RP RF (fun r I1 J1 => r = sGone T (cOf I 7) m ∧ J1 = J ∧ Sq 7 I I1)) := by
  subst e
  exact c_spentBy hC h
theorem c_turned {w : Int32} {I : I2} {J : J2} {T : TV} (hC : Cok I 7 T) : CT mX6_turned 8 58 58 [.ref 0, .int w] I J RF (RP RF (fun r I1 J1 => r = sTurned T (cOf I 7) w ∧ J1 = J ∧ Scr I I1)) := by
  obtain ⟨hN8, hM6⟩ := nC8 hC
  obtain ⟨hev, hp, hp1⟩ := evr hC
  have k12 : (w = 0 ∨ w = 1) → V mX6_turned none 8 58 (RP RF (fun r I1 J1 => r = sTurned T (cOf I 7) w ∧ J1 = J ∧ Scr I I1)) 12 [(0, .ref 0), (1, .int w)] [] 58 I J RF := by
    intro pw
    obtain ⟨e5, -⟩ := nC_i hC.2.2.2.2.1 hC.2.2.2.2.2.1
    have key : ∀ n, Hid (∀ (i : Nat) (I1 : I2), i + n = nC (cOf I 7) → Sq 7 I I1 → V mX6_turned none 8 58 (RP RF (fun r I1 J1 => r = sTurned T (cOf I 7) w ∧ J1 = J ∧ Scr I I1)) 28 [(0, .ref 0), (1, .int w), (2, .int (i32 (sLst T (cOf I 7)))), (3, .int (sTurn T (cOf I 7) (sLst T (cOf I 7)) (i)).1), (4, .int (sTurn T (cOf I 7) (sLst T (cOf I 7)) (i)).2), (5, .int (i32 (i)))] [] 58 I1 J RF) := by
      intro n
      induction n with
      | zero =>
        unfold Hid
        intro i I1 hi hq
        refine V_go 4 rfl ?_
        refine V_icmp_ge rfl (fun h1 => ?_) (fun h1 => ?_)
        · skip
          refine V_go 1 rfl ?_
          refine V_if_ne rfl (fun h2 => ?_) (fun h2 => ?_)
          · skip
            refine V_go 1 rfl ?_
            refine V_iret rfl rfl rfl ?_
            refine RP.mk ⟨?_, rfl, hq.scr7⟩
            unfold sTurned
            rw [if_pos pw, show nC (cOf I 7) = i from hi.symm]
            first
              | (rw [if_pos (by assumption)]; done)
              | (rw [if_neg (by assumption)]; done)
          · skip
            refine V_go 2 rfl ?_
            refine V_iret rfl rfl rfl ?_
            refine RP.mk ⟨?_, rfl, hq.scr7⟩
            unfold sTurned
            rw [if_pos pw, show nC (cOf I 7) = i from hi.symm]
            first
              | (rw [if_pos (by assumption)]; done)
              | (rw [if_neg (by assumption)]; done)
        · skip
          exfalso
          rw [sq_o (Or.inl rfl) hq, e5] at h1
          exact h1 (lp_stop hi)
      | succ n ih =>
        unfold Hid
        intro i I1 hi hq
        refine V_go 4 rfl ?_
        refine V_icmp_ge rfl (fun h1 => ?_) (fun h1 => ?_)
        · skip
          exfalso
          rw [sq_o (Or.inl rfl) hq, e5] at h1
          exact lp_more (by omega) (by omega) h1
        · skip
          refine V_go 7 rfl ?_
          refine cVP (mt' := mX0_spentBy) rfl kX6_164 fX0_spentBy rfl rfl rfl (Nat.le_of_ble_eq_true rfl) (Nat.le_of_ble_eq_true rfl) (Nat.le_of_ble_eq_true rfl) (Nat.le_of_ble_eq_true rfl) (Nat.le_refl _) (c_spentByT (m := sLst T (cOf I 7) ^^^ 2 ^ i) (hC.sq hq) (xor_ok i (by omega) _ (sLs_256 T _ hN8)).1 (xor_ok i (by omega) _ (sLs_256 T _ hN8)).2) ?_
          intro r2 Ir2 Jr2 h2
          obtain ⟨hv, rfl, hq2⟩ := h2
          rw [cOf_sq (Or.inl rfl) hq] at hv
          subst hv
          refine V_go 3 rfl ?_
          refine V_icmp_eq rfl (fun h3 => ?_) (fun h3 => ?_)
          · skip
            refine V_go 6 rfl ?_
            refine V.st (I' := Ir2) (L' := [(0, .ref 0), (1, .int w), (2, .int (i32 (sLst T (cOf I 7)))), (3, .int (sTurn T (cOf I 7) (sLst T (cOf I 7)) (i + 1)).1), (4, .int (sTurn T (cOf I 7) (sLst T (cOf I 7)) (i + 1)).2), (5, .int (i32 (i + 1)))]) (ih.un (i + 1) Ir2 (by omega) (hq.tr hq2)) rfl ?_
            rw [i32_s, sTurn_0 _ _ (Or.inl (by assumption))]
            simp
          · skip
            refine V_go 2 rfl ?_
            refine V_icmp_ge rfl (fun h4 => ?_) (fun h4 => ?_)
            · skip
              refine V_go 2 rfl ?_
              refine V.st (I' := Ir2) (L' := [(0, .ref 0), (1, .int w), (2, .int (i32 (sLst T (cOf I 7)))), (3, .int (sTurn T (cOf I 7) (sLst T (cOf I 7)) (i + 1)).1), (4, .int (sTurn T (cOf I 7) (sLst T (cOf I 7)) (i + 1)).2), (5, .int (i32 (i + 1)))]) (ih.un (i + 1) Ir2 (by omega) (hq.tr hq2)) rfl ?_
              rw [i32_s, sTurn_1 _ _ (by assumption) (by grind)]
              simp
            · skip
              refine V_go 6 rfl ?_
              refine V.st (I' := Ir2) (L' := [(0, .ref 0), (1, .int w), (2, .int (i32 (sLst T (cOf I 7)))), (3, .int (sTurn T (cOf I 7) (sLst T (cOf I 7)) (i + 1)).1), (4, .int (sTurn T (cOf I 7) (sLst T (cOf I 7)) (i + 1)).2), (5, .int (i32 (i + 1)))]) (ih.un (i + 1) Ir2 (by omega) (hq.tr hq2)) rfl ?_
              rw [i32_s, sTurn_0 _ _ (Or.inr (by grind))]
              simp
    refine V_go 2 rfl ?_
    refine cVP (mt' := mX0_listed) rfl kX6_111 fX0_listed rfl rfl rfl (Nat.le_of_ble_eq_true rfl) (Nat.le_of_ble_eq_true rfl) (Nat.le_of_ble_eq_true rfl) (Nat.le_of_ble_eq_true rfl) (Nat.le_refl _) (c_listed hC) ?_
    intro r1 Ir1 Jr1 h1
    obtain ⟨rfl, rfl, hq⟩ := h1
    refine V_go 7 rfl ?_
    exact (key _).un 0 _ (Nat.zero_add _) hq
  refine CT_of okX6_turned (Nat.le_of_ble_eq_true rfl) ?_
  show V _ _ _ _ _ _ [(0, _), (1, _)] _ _ _ _ _
  refine V_go 1 rfl ?_
  refine V_if_eq rfl (fun h1 => ?_) (fun h1 => ?_)
  · skip
    exact k12 (by first | exact Or.inl (by assumption) | exact Or.inr (by assumption))
  · skip
    refine V_go 2 rfl ?_
    refine V_icmp_eq rfl (fun h2 => ?_) (fun h2 => ?_)
    · skip
      exact k12 (by first | exact Or.inl (by assumption) | exact Or.inr (by assumption))
    · skip
      refine V_go 1 rfl ?_
      refine V_iret rfl rfl rfl ?_
      refine RP.mk ⟨?_, rfl, Scr.rf⟩
      unfold sTurned
      rw [if_neg (fun h => by rcases h with h | h <;> contradiction)]
end
section
theorem up2_up2 {α : Type} {f : Nat → Nat → α} {o k : Nat} {v w : α} : up2 (up2 f o k v) o k w = up2 f o k w := by
  funext i j
  simp only [up2_rd]
  grind
theorem up2_0 {f : CC} {o k : Nat} {v : Int32} (h : o ≠ 0) (j : Nat) : up2 f o k v 0 j = f 0 j := by rw [up2_ne (Ne.symm h)]
theorem Th.put {I I1 : I2} {T : TV} {C : CC} {g i : Nat} {v : Int32} (h : Th I I1 T C) (hg : 1 ≤ g ∧ g ≤ 6) : Th I (up2 I1 (16 + g) i v) T (up2 C g i v) := by
  have q : Fr 15 I1 (up2 I1 (16 + g) i v) := Fr.up (by omega)
  have e : cOf (up2 I1 (16 + g) i v) 15 = up2 (cOf I1 15) g i v := cOf_row (o := 15) (g := g) (by omega) hg
  refine ⟨?_, h.2.1.fr q ?_, h.2.2.tr q.scr15⟩
  · rw [e]
    exact h.1.up
  · rw [e, up2_ne (by omega)]
theorem Th.rule {I I1 : I2} {T : TV} {C : CC} {v : Int32} (h : Th I I1 T C) (h0 : 0 ≤ v) (h1 : v < I1 1 0) : Th I (up2 I1 15 4 v) T (up2 C 0 2 v) := by
  have q : Fr 15 I1 (up2 I1 15 4 v) := Fr.up (by omega)
  have e : cOf (up2 I1 15 4 v) 15 = up2 (cOf I1 15) 0 2 v := cOf_fld (o := 15) (f := 4) (by omega)
  refine ⟨?_, ?_, h.2.2.tr q.scr15⟩
  · rw [e]
    exact h.1.up
  · obtain ⟨ho, k1, k2, k3, k4⟩ := h.2.1
    refine ⟨ho, k1.scr q.scr15, ?_, ?_, ?_⟩
    · simp only [up2_rd, reduceIte]; exact h0
    · simp only [up2_rd, reduceIte, Nat.reduceEqDiff]; exact h1
    · simp only [up2_rd, reduceIte, Nat.reduceEqDiff]; exact k4
theorem Th.sq {I I1 I9 : I2} {T : TV} {C : CC} (h : Th I I1 T C) (q : Sq 15 I1 I9) : Th I I9 T C := ⟨by rw [cOf_sq (Or.inr (Or.inl rfl)) q]; exact h.1, h.2.1.sq q, h.2.2.tr q.scr15⟩
theorem Th.n3 {I I1 : I2} {T : TV} {C : CC} (h : Th I I1 T C) : I1 15 5 = C 0 3 := h.1.1 3 (by omega)
theorem Th.go {I I1 : I2} {T : TV} {C : CC} (h : Th I I1 T C) : sGo T (cOf I1 15) = sGo T C := h.1.sGo h.n8.1
theorem Th.ls {I I1 : I2} {T : TV} {C : CC} (h : Th I I1 T C) : sLst T (cOf I1 15) = sLst T C := h.1.sLst h.n8.1
theorem Th.dw {I I1 : I2} {T : TV} {C : CC} {it : Nat} (h : Th I I1 T C) (hi : it < mC C) : sDW T it 40 (cOf I1 15) 6 it = sDW T it 40 C 6 it := (h.1.dW (by have := h.nm; omega) 40 h.n8.1 h.n8.2).2.2 6 it (by omega) (by omega) (by have := h.nm; omega)
theorem Th.i7 {I I1 : I2} {T : TV} {C : CC} (h : Th I I1 T C) (hC : Cok I 7 T) : Cok I1 7 T ∧ cOf I1 7 = cOf I 7 := ⟨hC.scr h.2.2, cOf_scr h.2.2⟩
theorem Th.bec2 {I I1 I9 : I2} {T : TV} (hC : Cok I 7 T) (s : Scr I I1) (q : Fr 15 I1 I9) (e : Cq 8 6 (cOf I9 15) (cOf I1 7)) : Th I I9 T (cOf I 7) := by
  have h := Th.bec (hC.scr s) s q e
  rwa [cOf_scr s] at h
theorem c_doneWithinX {x : Int32} {it : Nat} {o : Nat} {I : I2} {J : J2} {T : TV} (hC : Cok I o T) (e : i32 it = x) (hi : it < mC (cOf I o)) : CT mX0_doneWithin 8 58 58 [.ref o, .int 40, .int x] I J RF (RP RF (fun r I2 J2 => r = sDW T it 40 (cOf I o) 6 it ∧ cOf I2 o = sDW T it 40 (cOf I o) ∧ J2 = J ∧ Fr o I I2)) := by
  subst e
  exact c_doneWithin hC hi
theorem c_putKindX {x : Int32} {c o : Nat} {v : Int32} {I : I2} {J : J2} (ho : oC o) (e : i32 c = x) (h1 : i32 c < I o 5) (h2 : c < 8) : CT mX0_putKind 2 58 58 [.ref o, .int x, .int v] I J RF (RV RF (up2 I (o + 2) c v) J) := by
  subst e
  exact c_putKindR ho h1 h2
theorem c_putNumberX {x : Int32} {c o : Nat} {v : Int32} {I : I2} {J : J2} (ho : oC o) (e : i32 c = x) (h1 : i32 c < I o 5) (h2 : c < 8) : CT mX0_putNumber 2 58 58 [.ref o, .int x, .int v] I J RF (RV RF (up2 I (o + 3) c v) J) := by
  subst e
  exact c_putNumberR ho h1 h2
theorem c_putBribeX {x : Int32} {c o : Nat} {v : Int32} {I : I2} {J : J2} (ho : oC o) (e : i32 c = x) (h1 : i32 c < I o 5) (h2 : c < 8) : CT mX0_putBribe 2 58 58 [.ref o, .int x, .int v] I J RF (RV RF (up2 I (o + 4) c v) J) := by
  subst e
  exact c_putBribeR ho h1 h2
theorem c_isReadX {x : Int32} {o c m : Nat} {I : I2} {J : J2} {T : TV} (hC : Cok I o T) (e : i32 c = x) (hc : c < nC (cOf I o)) (hm : m < 256) : CT mX0_isRead 3 58 58 [.ref o, .int x, .int (i32 m)] I J RF (RP RF (fun r I1 J1 => r = sRd T (cOf I o) c (cnt m c) ∧ J1 = J ∧ Sq o I I1)) := by
  subst e
  exact c_isRead hC hc hm
theorem c3lt {C : CC} {c : Nat} (hn : 0 ≤ C 0 3) (h8 : nC C ≤ 8) (h : c < nC C) : i32 c < C 0 3 := by
  unfold nC at *
  generalize C 0 3 = y at *
  have h1 := tcn y hn
  grind [i32_ti]
theorem Th.lt {I I1 : I2} {T : TV} {C : CC} {c : Nat} (h : Th I I1 T C) (hc : c < nC C) : i32 c < I1 15 5 ∧ c < 8 := by
  have h1 := h.nm
  refine ⟨?_, by omega⟩
  rw [h.n3]
  refine c3lt ?_ h1.2.2.1 hc
  rw [← h.n3]
  exact h.2.1.2.2.2.2.1
def sSoo (T : TV) (C : CC) (it : Nat) : Nat → Int32 × Int32
  | 0 => (-1, sDW T it 40 C 6 it)
  | c + 1 => if sDW T it 40 (up2 C 3 c 99) 6 it ≠ -1 ∧ ((sSoo T C it c).2 = -1 ∨ sDW T it 40 (up2 C 3 c 99) 6 it < (sSoo T C it c).2) then (i32 c, sDW T it 40 (up2 C 3 c 99) 6 it) else sSoo T C it c
def sSoon (T : TV) (C : CC) (x w : Int32) : Int32 := if isIt C x ∧ (w = 0 ∨ w = 1) then (if w = 0 then (sSoo T C x.toNatClampNeg (nC C)).1 else (sSoo T C x.toNatClampNeg (nC C)).2) else -2
theorem sSoo_a (T : TV) (C : CC) {it c : Nat} (h : sDW T it 40 (up2 C 3 c 99) 6 it = -1) : sSoo T C it (c + 1) = sSoo T C it c := by rw [sSoo, if_neg (fun h' => h'.1 h)]
theorem sSoo_b (T : TV) (C : CC) {it c : Nat} (h : ¬ sDW T it 40 (up2 C 3 c 99) 6 it = -1) (h2 : (sSoo T C it c).2 = -1 ∨ sDW T it 40 (up2 C 3 c 99) 6 it < (sSoo T C it c).2) : sSoo T C it (c + 1) = (i32 c, sDW T it 40 (up2 C 3 c 99) 6 it) := by rw [sSoo, if_pos ⟨h, h2⟩]
theorem sSoo_c (T : TV) (C : CC) {it c : Nat} (h1 : ¬ (sSoo T C it c).2 = -1) (h2 : ¬ sDW T it 40 (up2 C 3 c 99) 6 it < (sSoo T C it c).2) : sSoo T C it (c + 1) = sSoo T C it c := by rw [sSoo, if_neg (fun h' => h'.2.elim h1 h2)]

theorem c_soonest {x w : Int32} {I : I2} {J : J2} {T : TV} (hC : Cok I 7 T) : CT mX6_soonest 9 58 58 [.ref 0, .int x, .int w] I J RF (RP RF (fun r I1 J1 => r = sSoon T (cOf I 7) x w ∧ J1 = J ∧ Scr I I1)) := by
  obtain ⟨hN8, hM6⟩ := nC8 hC
  obtain ⟨hev, hp, hp1⟩ := evr hC
  have k23 : (isIt (cOf I 7) x ∧ (w = 0 ∨ w = 1)) → V mX6_soonest none 9 58 (RP RF (fun r I1 J1 => r = sSoon T (cOf I 7) x w ∧ J1 = J ∧ Scr I I1)) 23 [(0, .ref 0), (1, .int x), (2, .int w)] [] 58 I J RF := by
    intro pw
    obtain ⟨e5, -⟩ := nC_i hC.2.2.2.2.1 hC.2.2.2.2.2.1
    obtain ⟨pm, px0⟩ := isIt_n pw.1
    have px := px0.symm
    have key : ∀ n, Hid (∀ (i : Nat) (I1 : I2), i + n = nC (cOf I 7) → Scr I I1 → V mX6_soonest none 9 58 (RP RF (fun r I1 J1 => r = sSoon T (cOf I 7) x w ∧ J1 = J ∧ Scr I I1)) 51 [(0, .ref 0), (1, .int x), (2, .int w), (3, .int (sSoo T (cOf I 7) x.toNatClampNeg (i)).2), (4, .int (sSoo T (cOf I 7) x.toNatClampNeg (i)).1), (5, .int (i32 (i)))] [] 58 I1 J RF) := by
      intro n
      induction n with
      | zero =>
        unfold Hid
        intro i I1 hi hq
        have e7 : I1 7 5 = i32 (nC (cOf I 7)) := by rw [hq 7 (by omega) (by omega) (by omega) (by omega) (by omega) (by omega)]; exact e5
        refine V_go 4 rfl ?_
        refine V_icmp_ge rfl (fun h1 => ?_) (fun h1 => ?_)
        · skip
          refine V_go 1 rfl ?_
          refine V_if_ne rfl (fun h2 => ?_) (fun h2 => ?_)
          · skip
            refine V_go 1 rfl ?_
            refine V_iret rfl rfl rfl ?_
            refine RP.mk ⟨?_, rfl, hq⟩
            unfold sSoon
            rw [if_pos pw, show nC (cOf I 7) = i from hi.symm]
            first
              | (rw [if_pos (by assumption)]; done)
              | (rw [if_neg (by assumption)]; done)
          · skip
            refine V_go 2 rfl ?_
            refine V_iret rfl rfl rfl ?_
            refine RP.mk ⟨?_, rfl, hq⟩
            unfold sSoon
            rw [if_pos pw, show nC (cOf I 7) = i from hi.symm]
            first
              | (rw [if_pos (by assumption)]; done)
              | (rw [if_neg (by assumption)]; done)
        · skip
          exfalso
          rw [e7] at h1
          exact h1 (lp_stop hi)
      | succ n ih =>
        unfold Hid
        intro i I1 hi hq
        have e7 : I1 7 5 = i32 (nC (cOf I 7)) := by rw [hq 7 (by omega) (by omega) (by omega) (by omega) (by omega) (by omega)]; exact e5
        refine V_go 4 rfl ?_
        refine V_icmp_ge rfl (fun h1 => ?_) (fun h1 => ?_)
        · skip
          exfalso
          rw [e7] at h1
          exact lp_more (by omega) (by omega) h1
        · skip
          refine V_go 4 rfl ?_
          refine cVW (mt' := mX0_become) rfl kX6_173 fX0_become rfl rfl rfl (Nat.le_of_ble_eq_true rfl) (Nat.le_of_ble_eq_true rfl) (Nat.le_of_ble_eq_true rfl) (Nat.le_of_ble_eq_true rfl) (Nat.le_refl _) (c_become_15_7) ?_
          intro Ir2 Jr2 h2
          obtain ⟨rfl, hc, hq2⟩ := h2
          have hi2 : i < nC (cOf I 7) := by omega
          have ht := Th.bec2 hC hq hq2 hc
          refine V_go 4 rfl ?_
          refine cVV (mt' := mX0_putBribe) rfl kX6_75 fX0_putBribe rfl rfl rfl (Nat.le_of_ble_eq_true rfl) (Nat.le_of_ble_eq_true rfl) (Nat.le_of_ble_eq_true rfl) (Nat.le_of_ble_eq_true rfl) (Nat.le_refl _) (c_putBribeR (Or.inr (Or.inl rfl)) (c := i) (ht.lt hi2).1 (ht.lt hi2).2) ?_
          have ht2 := ht.put (g := 3) (i := i) (v := 99) (by omega)
          refine V_go 4 rfl ?_
          refine cVP (mt' := mX0_doneWithin) rfl kX6_177 fX0_doneWithin rfl rfl rfl (Nat.le_of_ble_eq_true rfl) (Nat.le_of_ble_eq_true rfl) (Nat.le_of_ble_eq_true rfl) (Nat.le_of_ble_eq_true rfl) (Nat.le_refl _) (c_doneWithinX ht2.2.1 px (by rw [ht2.nm.2.1]; exact pm)) ?_
          intro r4 Ir4 Jr4 h4
          obtain ⟨hv, -, rfl, hq3⟩ := h4
          rw [ht2.dw pm] at hv
          subst hv
          refine V_go 3 rfl ?_
          refine V_icmp_eq rfl (fun h5 => ?_) (fun h5 => ?_)
          · skip
            refine V_go 2 rfl ?_
            refine V.st (I' := Ir4) (L' := [(0, .ref 0), (1, .int x), (2, .int w), (3, .int (sSoo T (cOf I 7) x.toNatClampNeg (i + 1)).2), (4, .int (sSoo T (cOf I 7) x.toNatClampNeg (i + 1)).1), (5, .int (i32 (i + 1)))]) (ih.un (i + 1) Ir4 (by omega) (ht2.2.2.tr hq3.scr15)) rfl ?_
            rw [i32_s, sSoo_a _ _ (by assumption)]
            simp
          · skip
            refine V_go 2 rfl ?_
            refine V_icmp_eq rfl (fun h6 => ?_) (fun h6 => ?_)
            · skip
              refine V_go 6 rfl ?_
              refine V.st (I' := Ir4) (L' := [(0, .ref 0), (1, .int x), (2, .int w), (3, .int (sSoo T (cOf I 7) x.toNatClampNeg (i + 1)).2), (4, .int (sSoo T (cOf I 7) x.toNatClampNeg (i + 1)).1), (5, .int (i32 (i + 1)))]) (ih.un (i + 1) Ir4 (by omega) (ht2.2.2.tr hq3.scr15)) rfl ?_
              rw [i32_s, sSoo_b _ _ (by assumption) (Or.inl (by assumption))]
              simp
            · skip
              refine V_go 2 rfl ?_
              refine V_icmp_ge rfl (fun h7 => ?_) (fun h7 => ?_)
              · skip
                refine V_go 2 rfl ?_
                refine V.st (I' := Ir4) (L' := [(0, .ref 0), (1, .int x), (2, .int w), (3, .int (sSoo T (cOf I 7) x.toNatClampNeg (i + 1)).2), (4, .int (sSoo T (cOf I 7) x.toNatClampNeg (i + 1)).1), (5, .int (i32 (i + 1)))]) (ih.un (i + 1) Ir4 (by omega) (ht2.2.2.tr hq3.scr15)) rfl ?_
                rw [i32_s, sSoo_c _ _ (by assumption) (by grind)]
                simp
              · skip
                refine V_go 6 rfl ?_
                refine V.st (I' := Ir4) (L' := [(0, .ref 0), (1, .int x), (2, .int w), (3, .int (sSoo T (cOf I 7) x.toNatClampNeg (i + 1)).2), (4, .int (sSoo T (cOf I 7) x.toNatClampNeg (i + 1)).1), (5, .int (i32 (i + 1)))]) (ih.un (i + 1) Ir4 (by omega) (ht2.2.2.tr hq3.scr15)) rfl ?_
                rw [i32_s, sSoo_b _ _ (by assumption) (Or.inr (by grind))]
                simp
    refine V_go 4 rfl ?_
    refine cVW (mt' := mX0_become) rfl kX6_173 fX0_become rfl rfl rfl (Nat.le_of_ble_eq_true rfl) (Nat.le_of_ble_eq_true rfl) (Nat.le_of_ble_eq_true rfl) (Nat.le_of_ble_eq_true rfl) (Nat.le_refl _) (c_become_15_7) ?_
    intro Ir1 Jr1 h1
    obtain ⟨rfl, hc, hq⟩ := h1
    have ht := Th.bec hC Scr.rf hq hc
    refine V_go 4 rfl ?_
    refine cVP (mt' := mX0_doneWithin) rfl kX6_177 fX0_doneWithin rfl rfl rfl (Nat.le_of_ble_eq_true rfl) (Nat.le_of_ble_eq_true rfl) (Nat.le_of_ble_eq_true rfl) (Nat.le_of_ble_eq_true rfl) (Nat.le_refl _) (c_doneWithinX ht.2.1 px (by rw [ht.nm.2.1]; exact pm)) ?_
    intro r2 Ir2 Jr2 h2
    obtain ⟨hv, -, rfl, hq3⟩ := h2
    rw [ht.dw pm] at hv
    subst hv
    refine V_go 5 rfl ?_
    exact (key _).un 0 _ (Nat.zero_add _) (ht.2.2.tr hq3.scr15)
  refine CT_of okX6_soonest (Nat.le_of_ble_eq_true rfl) ?_
  show V _ _ _ _ _ _ [(0, _), (1, _), (2, _)] _ _ _ _ _
  refine V_go 3 rfl ?_
  refine cVI (mt' := mX0_hasItem) rfl kX6_96 fX0_hasItem rfl rfl rfl (Nat.le_of_ble_eq_true rfl) (Nat.le_of_ble_eq_true rfl) (Nat.le_of_ble_eq_true rfl) (Nat.le_of_ble_eq_true rfl) (Nat.le_refl _) (c_hasItem hC.1) ?_
  refine V_if_eq rfl (fun h2 => ?_) (fun h2 => ?_)
  · skip
    refine V_go 1 rfl ?_
    refine V_iret rfl rfl rfl ?_
    refine RP.mk ⟨?_, rfl, Scr.rf⟩
    unfold sSoon
    refine (if_neg ?_).symm
    rintro ⟨k1, k2⟩
    first
      | (rcases k2 with h | h <;> contradiction)
      | exact absurd (b2i_1 ((isIt_ok hC _).mpr k1)) (by rw [show b2i _ = 0 from by assumption]; decide)
  · skip
    refine V_go 1 rfl ?_
    refine V_if_eq rfl (fun h3 => ?_) (fun h3 => ?_)
    · skip
      refine k23 ⟨(isIt_ok hC _).mp (b2i_eq1.mp ((b2i_or _).resolve_left (by assumption))), ?_⟩
      first
        | exact Or.inl (by assumption)
        | exact Or.inr (by assumption)
    · skip
      refine V_go 2 rfl ?_
      refine V_icmp_eq rfl (fun h4 => ?_) (fun h4 => ?_)
      · skip
        refine k23 ⟨(isIt_ok hC _).mp (b2i_eq1.mp ((b2i_or _).resolve_left (by assumption))), ?_⟩
        first
          | exact Or.inl (by assumption)
          | exact Or.inr (by assumption)
      · skip
        refine V_go 1 rfl ?_
        refine V_iret rfl rfl rfl ?_
        refine RP.mk ⟨?_, rfl, Scr.rf⟩
        unfold sSoon
        refine (if_neg ?_).symm
        rintro ⟨k1, k2⟩
        first
          | (rcases k2 with h | h <;> contradiction)
          | exact absurd (b2i_1 ((isIt_ok hC _).mpr k1)) (by rw [show b2i _ = 0 from by assumption]; decide)
end
section
theorem up2_self {α : Type} {f : Nat → Nat → α} {o k : Nat} : up2 f o k (f o k) = f := by
  funext i j
  simp only [up2_rd]
  grind
def sBri (T : TV) (C : CC) (c : Nat) : Nat → Nat → Int32
  | 0, _ => -1
  | n + 1, b => if sRd T (up2 C 3 c (i32 b)) c (cnt (sLst T C) c) = 0 then sBri T C c n (b + 1) else i32 b
def sBribe (T : TV) (C : CC) (x : Int32) : Int32 := if isCi C x then sBri T C x.toNatClampNeg 100 0 else -2

theorem c_bribe {x : Int32} {I : I2} {J : J2} {T : TV} (hC : Cok I 7 T) : CT mX6_bribe 9 58 58 [.ref 0, .int x] I J RF (RP RF (fun r I1 J1 => r = sBribe T (cOf I 7) x ∧ J1 = J ∧ Scr I I1)) := by
  obtain ⟨hN8, hM6⟩ := nC8 hC
  obtain ⟨hev, hp, hp1⟩ := evr hC
  have k14 : isCi (cOf I 7) x → V mX6_bribe none 9 58 (RP RF (fun r I1 J1 => r = sBri T (cOf I 7) x.toNatClampNeg 100 0 ∧ J1 = J ∧ Scr I I1)) 14 [(0, .ref 0), (1, .int x)] [] 58 I J RF := by
    intro pw
    obtain ⟨pm, px0⟩ := isCi_n pw
    have px := px0.symm
    have key : ∀ n, Hid (∀ (i : Nat) (I1 : I2) (v : Int32), i + n = 100 → Th I I1 T (up2 (cOf I 7) 3 x.toNatClampNeg v) → V mX6_bribe none 9 58 (RP RF (fun r I1 J1 => r = sBri T (cOf I 7) x.toNatClampNeg n i ∧ J1 = J ∧ Scr I I1)) 35 [(0, .ref 0), (1, .int x), (2, .int (i32 (sLst T (cOf I 7)))), (3, .int (i32 (i)))] [] 58 I1 J RF) := by
      intro n
      induction n with
      | zero =>
        unfold Hid
        intro i I1 v hi hs
        refine V_go 2 rfl ?_
        refine V_icmp_gt rfl (fun h1 => ?_) (fun h1 => ?_)
        · skip
          refine V_go 1 rfl ?_
          refine V_iret rfl rfl rfl ?_
          exact RP.mk ⟨rfl, rfl, hs.2.2⟩
        · skip
          exfalso
          have h9 : i = 100 := hi
          rw [h9] at h1
          exact h1 (by decide)
      | succ n ih =>
        unfold Hid
        intro i I1 v hi hs
        refine V_go 2 rfl ?_
        refine V_icmp_gt rfl (fun h1 => ?_) (fun h1 => ?_)
        · skip
          exfalso
          exact absurd h1 (lp_more (i := i) (N := 100) (by omega) (by omega) ∘ (fun h => by grind [i32_ti]))
        · skip
          refine V_go 4 rfl ?_
          refine cVV (mt' := mX0_putBribe) rfl kX6_75 fX0_putBribe rfl rfl rfl (Nat.le_of_ble_eq_true rfl) (Nat.le_of_ble_eq_true rfl) (Nat.le_of_ble_eq_true rfl) (Nat.le_of_ble_eq_true rfl) (Nat.le_refl _) (c_putBribeX (Or.inr (Or.inl rfl)) px (hs.lt (c := x.toNatClampNeg) pm).1 (hs.lt (c := x.toNatClampNeg) pm).2) ?_
          have ht2 : Th I (up2 I1 (15 + 4) x.toNatClampNeg (i32 i)) T (up2 (cOf I 7) 3 x.toNatClampNeg (i32 i)) := by
            have h := hs.put (g := 3) (i := x.toNatClampNeg) (v := i32 i) (by omega)
            rw [up2_up2] at h
            exact h
          refine V_go 4 rfl ?_
          refine cVP (mt' := mX0_isRead) rfl kX6_115 fX0_isRead rfl rfl rfl (Nat.le_of_ble_eq_true rfl) (Nat.le_of_ble_eq_true rfl) (Nat.le_of_ble_eq_true rfl) (Nat.le_of_ble_eq_true rfl) (Nat.le_refl _) (c_isReadX ht2.2.1 px (by rw [ht2.nm.1]; exact pm) (sLs_256 T _ hN8)) ?_
          intro r3 Ir3 Jr3 h3
          obtain ⟨hv, rfl, hq2⟩ := h3
          have ht3 := ht2.sq hq2
          rw [ht2.1.sRd (by omega)] at hv
          subst hv
          refine V_if_eq rfl (fun h4 => ?_) (fun h4 => ?_)
          · skip
            refine V_go 2 rfl ?_
            rw [show sBri T (cOf I 7) x.toNatClampNeg (n + 1) i = sBri T (cOf I 7) x.toNatClampNeg n (i + 1) from by rw [sBri, if_pos (by assumption)]]
            refine V.st (I' := Ir3) (L' := [(0, .ref 0), (1, .int x), (2, .int (i32 (sLst T (cOf I 7)))), (3, .int (i32 (i + 1)))]) (ih.un (i + 1) Ir3 (i32 i) (by omega) ht3) rfl ?_
            rw [i32_s]
            simp
          · skip
            refine V_go 1 rfl ?_
            refine V_iret rfl rfl rfl ?_
            refine RP.mk ⟨?_, rfl, ht3.2.2⟩
            rw [sBri, if_neg (by assumption)]
    refine V_go 2 rfl ?_
    refine cVP (mt' := mX0_listed) rfl kX6_111 fX0_listed rfl rfl rfl (Nat.le_of_ble_eq_true rfl) (Nat.le_of_ble_eq_true rfl) (Nat.le_of_ble_eq_true rfl) (Nat.le_of_ble_eq_true rfl) (Nat.le_refl _) (c_listed hC) ?_
    intro r1 Ir1 Jr1 h1
    obtain ⟨rfl, rfl, hq1⟩ := h1
    refine V_go 5 rfl ?_
    refine cVW (mt' := mX0_become) rfl kX6_173 fX0_become rfl rfl rfl (Nat.le_of_ble_eq_true rfl) (Nat.le_of_ble_eq_true rfl) (Nat.le_of_ble_eq_true rfl) (Nat.le_of_ble_eq_true rfl) (Nat.le_refl _) (c_become_15_7) ?_
    intro Ir2 Jr2 h2
    obtain ⟨rfl, hc, hq⟩ := h2
    have ht := Th.bec2 hC hq1.scr7 hq hc
    refine V_go 2 rfl ?_
    exact (key 100).un 0 _ (cOf I 7 3 x.toNatClampNeg) rfl (by rw [up2_self]; exact ht)
  refine CT_of okX6_bribe (Nat.le_of_ble_eq_true rfl) ?_
  show V _ _ _ _ _ _ [(0, _), (1, _)] _ _ _ _ _
  refine V_go 3 rfl ?_
  refine cVI (mt' := mX0_hasCitizen) rfl kX6_90 fX0_hasCitizen rfl rfl rfl (Nat.le_of_ble_eq_true rfl) (Nat.le_of_ble_eq_true rfl) (Nat.le_of_ble_eq_true rfl) (Nat.le_of_ble_eq_true rfl) (Nat.le_refl _) (c_hasCitizen hC.1) ?_
  refine V_if_ne rfl (fun h2 => ?_) (fun h2 => ?_)
  · skip
    have hh := (isCi_ok hC _).mp (b2i_eq1.mp ((b2i_or _).resolve_left (show ¬ b2i _ = 0 from by assumption)))
    rw [show sBribe T (cOf I 7) x = sBri T (cOf I 7) x.toNatClampNeg 100 0 from if_pos hh]
    exact k14 hh
  · skip
    refine V_go 1 rfl ?_
    refine V_iret rfl rfl rfl ?_
    refine RP.mk ⟨?_, rfl, Scr.rf⟩
    unfold sBribe
    exact (if_neg (fun k1 => absurd (b2i_1 ((isCi_ok hC _).mpr k1)) (by rw [show b2i _ = 0 from by assumption]; decide))).symm
theorem cq_rest {C C' : CC} (h : Cq 8 6 C C') (hm : mC C ≤ 6) {i : Nat} : sRest C i = sRest C' i := by
  unfold sRest
  rw [← h.mC]
  split
  · rw [h.2.2 4 i (by omega) (by omega) (by omega), h.2.2 5 i (by omega) (by omega) (by omega)]
  · rfl
theorem cq_wait {C C' : CC} (h : Cq 8 6 C C') (hm : mC C ≤ 6) : ∀ i, sWait C i = sWait C' i
  | 0 => rfl
  | i + 1 => by
    rw [sWait, sWait, cq_rest h hm, cq_wait h hm i]
theorem cq_mt {T : TV} {C C' : CC} (h : Cq 8 6 C C') (hn : nC C ≤ 8) : ∀ i, sMt T C i = sMt T C' i
  | 0 => rfl
  | i + 1 => by
    rw [sMt, sMt, cq_mt h hn i, h.1 0 (by omega), (Cq.up h).sLeft (show nC (up2 C 0 0 _) ≤ 8 from hn)]
theorem cq_ord {T : TV} {C C' : CC} (h : Cq 8 6 C C') (hn : nC C ≤ 8) (hm : mC C ≤ 6) : sOrd T C = sOrd T C' := by
  unfold sOrd
  rw [cq_wait h hm, h.1 0 (by omega)]
  exact tryS_congr (fun i _ => cq_rest h hm) (fun t _ => cq_mt h hn _) _ _ _ _ _ _
def sOrder (T : TV) (C : CC) (w : Int32) : Int32 := if w = 0 ∨ w = 1 then (if w = 0 then (sOrd T C).2 else (sOrd T C).1) else -2

theorem c_order {w : Int32} {I : I2} {J : J2} {T : TV} (hC : Cok I 7 T) : CT mX6_order 12 58 58 [.ref 0, .int w] I J RF (RP RF (fun r I1 J1 => r = sOrder T (cOf I 7) w ∧ J1 = J ∧ Scr I I1)) := by
  obtain ⟨hN8, hM6⟩ := nC8 hC
  obtain ⟨hev, hp, hp1⟩ := evr hC
  
  refine CT_of okX6_order (Nat.le_of_ble_eq_true rfl) ?_
  show V _ _ _ _ _ _ [(0, _), (1, _)] _ _ _ _ _
  refine V_go 1 rfl ?_
  refine V_if_eq rfl (fun h1 => ?_) (fun h1 => ?_)
  · skip
    refine V_go 4 rfl ?_
    refine cVW (mt' := mX0_become) rfl kX6_173 fX0_become rfl rfl rfl (Nat.le_of_ble_eq_true rfl) (Nat.le_of_ble_eq_true rfl) (Nat.le_of_ble_eq_true rfl) (Nat.le_of_ble_eq_true rfl) (Nat.le_refl _) (c_become_15_7) ?_
    intro Ir2 Jr2 h2
    obtain ⟨rfl, hc, hq⟩ := h2
    have ht := Th.bec hC Scr.rf hq hc
    refine V_go 4 rfl ?_
    refine cVW (mt' := mX2_weigh) rfl kX6_183 fX2_weigh rfl rfl rfl (Nat.le_of_ble_eq_true rfl) (Nat.le_of_ble_eq_true rfl) (Nat.le_of_ble_eq_true rfl) (Nat.le_of_ble_eq_true rfl) (Nat.le_refl _) (c_weigh ht.2.1) ?_
    intro Ir3 Jr3 h3
    obtain ⟨rfl, k4, k3, hq2⟩ := h3
    rw [cq_ord ht.1 ht.n8.1 ht.n8.2] at k4 k3
    refine V_go 1 rfl ?_
    refine V_if_ne rfl (fun h4 => ?_) (fun h4 => ?_)
    · skip
      refine V_go 3 rfl ?_
      refine V_iret rfl rfl rfl ?_
      unfold sOrder
      first
        | contradiction
        | exact RP.mk ⟨(if_neg (fun h => by rcases h with h | h <;> contradiction)).symm, rfl, Scr.rf⟩
        | exact RP.mk ⟨by rw [if_pos (Or.inl (by assumption)), if_pos (by assumption)]; exact k3, rfl, ht.2.2.tr hq2.scr⟩
        | exact RP.mk ⟨by rw [if_pos (Or.inr (by assumption)), if_neg (by assumption)]; exact k4, rfl, ht.2.2.tr hq2.scr⟩
    · skip
      refine V_go 4 rfl ?_
      refine V_iret rfl rfl rfl ?_
      unfold sOrder
      first
        | contradiction
        | exact RP.mk ⟨(if_neg (fun h => by rcases h with h | h <;> contradiction)).symm, rfl, Scr.rf⟩
        | exact RP.mk ⟨by rw [if_pos (Or.inl (by assumption)), if_pos (by assumption)]; exact k3, rfl, ht.2.2.tr hq2.scr⟩
        | exact RP.mk ⟨by rw [if_pos (Or.inr (by assumption)), if_neg (by assumption)]; exact k4, rfl, ht.2.2.tr hq2.scr⟩
  · skip
    refine V_go 2 rfl ?_
    refine V_icmp_eq rfl (fun h5 => ?_) (fun h5 => ?_)
    · skip
      refine V_go 4 rfl ?_
      refine cVW (mt' := mX0_become) rfl kX6_173 fX0_become rfl rfl rfl (Nat.le_of_ble_eq_true rfl) (Nat.le_of_ble_eq_true rfl) (Nat.le_of_ble_eq_true rfl) (Nat.le_of_ble_eq_true rfl) (Nat.le_refl _) (c_become_15_7) ?_
      intro Ir6 Jr6 h6
      obtain ⟨rfl, hc, hq⟩ := h6
      have ht := Th.bec hC Scr.rf hq hc
      refine V_go 4 rfl ?_
      refine cVW (mt' := mX2_weigh) rfl kX6_183 fX2_weigh rfl rfl rfl (Nat.le_of_ble_eq_true rfl) (Nat.le_of_ble_eq_true rfl) (Nat.le_of_ble_eq_true rfl) (Nat.le_of_ble_eq_true rfl) (Nat.le_refl _) (c_weigh ht.2.1) ?_
      intro Ir7 Jr7 h7
      obtain ⟨rfl, k4, k3, hq2⟩ := h7
      rw [cq_ord ht.1 ht.n8.1 ht.n8.2] at k4 k3
      refine V_go 1 rfl ?_
      refine V_if_ne rfl (fun h8 => ?_) (fun h8 => ?_)
      · skip
        refine V_go 3 rfl ?_
        refine V_iret rfl rfl rfl ?_
        unfold sOrder
        first
          | contradiction
          | exact RP.mk ⟨(if_neg (fun h => by rcases h with h | h <;> contradiction)).symm, rfl, Scr.rf⟩
          | exact RP.mk ⟨by rw [if_pos (Or.inl (by assumption)), if_pos (by assumption)]; exact k3, rfl, ht.2.2.tr hq2.scr⟩
          | exact RP.mk ⟨by rw [if_pos (Or.inr (by assumption)), if_neg (by assumption)]; exact k4, rfl, ht.2.2.tr hq2.scr⟩
      · skip
        refine V_go 4 rfl ?_
        refine V_iret rfl rfl rfl ?_
        unfold sOrder
        first
          | contradiction
          | exact RP.mk ⟨(if_neg (fun h => by rcases h with h | h <;> contradiction)).symm, rfl, Scr.rf⟩
          | exact RP.mk ⟨by rw [if_pos (Or.inl (by assumption)), if_pos (by assumption)]; exact k3, rfl, ht.2.2.tr hq2.scr⟩
          | exact RP.mk ⟨by rw [if_pos (Or.inr (by assumption)), if_neg (by assumption)]; exact k4, rfl, ht.2.2.tr hq2.scr⟩
    · skip
      refine V_go 1 rfl ?_
      refine V_iret rfl rfl rfl ?_
      unfold sOrder
      first
        | contradiction
        | exact RP.mk ⟨(if_neg (fun h => by rcases h with h | h <;> contradiction)).symm, rfl, Scr.rf⟩
        | exact RP.mk ⟨by rw [if_pos (Or.inl (by assumption)), if_pos (by assumption)]; exact k3, rfl, ht.2.2.tr hq2.scr⟩
        | exact RP.mk ⟨by rw [if_pos (Or.inr (by assumption)), if_neg (by assumption)]; exact k4, rfl, ht.2.2.tr hq2.scr⟩
def sDz (z0 : Int32) : Nat → Int32
  | 0 => z0
  | i + 1 => sDz z0 i * 1103515245 + 12345
def sDv (z : Int32) : Int32 := iushrV z 9 - iushrV z 9 / 100 * 100
theorem sDr_cl (C : CC) (z : Int32) : ∀ i, sDr C z i = (fun g j => if g = 3 ∧ j < i then sDv (sDz z (j + 1)) else C g j, sDz z i)
  | 0 => by
    rw [sDr]
    refine Prod.ext ?_ rfl
    funext g j
    simp
  | i + 1 => by
    rw [sDr, sDr_cl C z i]
    refine Prod.ext ?_ rfl
    funext g j
    simp only [up2_rd]
    by_cases hg : g = 3
    · by_cases hj : j = i
      · subst hj
        rw [if_pos hg, if_pos rfl, if_pos ⟨hg, by omega⟩]
        rfl
      · rw [if_pos hg, if_neg hj]
        by_cases h : j < i
        · rw [if_pos ⟨hg, h⟩, if_pos ⟨hg, by omega⟩]
        · rw [if_neg (fun k => h k.2), if_neg (fun k => h (by omega))]
    · rw [if_neg hg, if_neg (fun k => hg k.1), if_neg (fun k => hg k.1)]
theorem sDr_2 (C : CC) (z z' : Int32) (i : Nat) : (sDr (sDr C z i).1 z' i).1 = (sDr C z' i).1 := by
  rw [sDr_cl, sDr_cl, sDr_cl]
  funext g j
  simp only
  grind
theorem sDr_nm (C : CC) (z : Int32) (i : Nat) : nC (sDr C z i).1 = nC C ∧ mC (sDr C z i).1 = mC C := by
  unfold nC mC
  rw [sDr_0]
  exact ⟨rfl, rfl⟩
theorem cq_dr {n m : Nat} {C C' : CC} (h : Cq n m C C') (z : Int32) (i : Nat) : Cq n m (sDr C z i).1 (sDr C' z i).1 := by
  rw [sDr_cl, sDr_cl]
  refine ⟨fun k hk => ?_, fun a k h1 h2 h3 => ?_, fun a k h1 h2 h3 => ?_⟩
  · simp only []
    rw [if_neg (by omega), if_neg (by omega)]
    exact h.1 k hk
  · simp only []
    split
    · rfl
    · exact h.2.1 a k h1 h2 h3
  · simp only []
    rw [if_neg (by omega), if_neg (by omega)]
    exact h.2.2 a k h1 h2 h3
theorem Th.draw {I I1 I9 : I2} {T : TV} {C : CC} {z : Int32} (h : Th I I1 T C) (e : cOf I9 15 = (sDr (cOf I1 15) z (nC (cOf I1 15))).1) (q : Fr 15 I1 I9) : Th I I9 T (sDr C z (nC C)).1 := by
  refine ⟨?_, h.2.1.frq q ?_, h.2.2.tr q.scr15⟩
  · rw [e, h.1.nC]
    exact cq_dr h.1 z _
  · intro j _
    rw [e, sDr_0]
def sDrawn (T : TV) (C : CC) (z : Int32) : Int32 := i32 (cnt (sLst T (sDr C z (nC C)).1) 8)

theorem c_drawn {z : Int32} {I : I2} {J : J2} {T : TV} (hC : Cok I 7 T) : CT mX6_drawn 9 58 58 [.ref 0, .int z] I J RF (RP RF (fun r I1 J1 => r = sDrawn T (cOf I 7) z ∧ J1 = J ∧ Scr I I1)) := by
  obtain ⟨hN8, hM6⟩ := nC8 hC
  obtain ⟨hev, hp, hp1⟩ := evr hC
  
  refine CT_of okX6_drawn (Nat.le_of_ble_eq_true rfl) ?_
  show V _ _ _ _ _ _ [(0, _), (1, _)] _ _ _ _ _
  refine V_go 4 rfl ?_
  refine cVW (mt' := mX0_become) rfl kX6_173 fX0_become rfl rfl rfl (Nat.le_of_ble_eq_true rfl) (Nat.le_of_ble_eq_true rfl) (Nat.le_of_ble_eq_true rfl) (Nat.le_of_ble_eq_true rfl) (Nat.le_refl _) (c_become_15_7) ?_
  intro Ir1 Jr1 h1
  obtain ⟨rfl, hc, hq⟩ := h1
  have ht := Th.bec hC Scr.rf hq hc
  refine V_go 3 rfl ?_
  refine cVW (mt' := mX0_drawBribes) rfl kX6_243 fX0_drawBribes rfl rfl rfl (Nat.le_of_ble_eq_true rfl) (Nat.le_of_ble_eq_true rfl) (Nat.le_of_ble_eq_true rfl) (Nat.le_of_ble_eq_true rfl) (Nat.le_refl _) (c_drawBribes ht.2.1) ?_
  intro Ir2 Jr2 h2
  obtain ⟨hd, rfl, hq2⟩ := h2
  have ht2 := ht.draw hd hq2
  refine V_go 2 rfl ?_
  refine cVP (mt' := mX0_listed) rfl kX6_111 fX0_listed rfl rfl rfl (Nat.le_of_ble_eq_true rfl) (Nat.le_of_ble_eq_true rfl) (Nat.le_of_ble_eq_true rfl) (Nat.le_of_ble_eq_true rfl) (Nat.le_refl _) (c_listed ht2.2.1) ?_
  intro r3 Ir3 Jr3 h3
  obtain ⟨hv, rfl, hq3⟩ := h3
  rw [ht2.ls] at hv
  subst hv
  refine cSI (mt' := mJ6_bitCount_0f7a4) rfl kX6_150 fJ6_bitCount_0f7a4 rfl (Nat.le_of_ble_eq_true rfl) (Nat.le_of_ble_eq_true rfl) (Nat.le_refl _) (c_bitCount) ?_
  refine V_iret rfl rfl rfl ?_
  exact RP.mk ⟨bitc_all _ (sLs_256 T _ (by rw [(sDr_nm _ _ _).1]; exact hN8)), rfl, (ht2.sq hq3).2.2⟩
end
section
theorem rem_ok : ∀ a, a < 21 → ∀ b, b < 21 → 0 < b → i32 a - i32 a / i32 b * i32 b = i32 (a % b) ∧ i32 a / i32 b = i32 (a / b) ∧ ¬ i32 b = 0 := by decide +kernel
def low (a b m : Nat) : Nat → Nat
  | 0 => a
  | d + 1 => if d = 0 then a else if b % (d + 1) = 0 ∧ m % (d + 1) = 0 then a / (d + 1) else low a b m d
theorem i32_p (d : Nat) : i32 (d + 1) + -1 = i32 d := by rw [i32_s, Int32.add_assoc]; simp
theorem i32_z {n : Nat} (h : n < 1000) : i32 n = 0 ↔ n = 0 := by grind [i32_ti]

theorem c_inLowestTerms {a b m : Nat} {I : I2} {J : J2} (ha : a < 21) (hb : b < 21) (hm : m < 21) : CT mX6_inLowestTerms 1 58 58 [.int (i32 a), .int (i32 b), .int (i32 m)] I J RF (RI RF (i32 (low a b m m)) I J) := by
  refine CT_of okX6_inLowestTerms (Nat.le_of_ble_eq_true rfl) ?_
  show V _ _ _ _ _ _ [(0, _), (1, _), (2, _)] _ _ _ _ _
  have key : ∀ d, d < 21 → V mX6_inLowestTerms none 1 58 (RI RF (i32 (low a b m d)) I J) 2 [(0, .int (i32 a)), (1, .int (i32 b)), (2, .int (i32 m)), (3, .int (i32 d))] [] 58 I J RF := by
    intro d
    induction d with
    | zero =>
      intro hd
      refine V_go 2 rfl ?_
      refine V_icmp_le rfl (fun h1 => ?_) (fun h1 => ?_)
      · skip
        refine V_go 1 rfl ?_
        refine V_iret rfl rfl rfl ?_
        exact RI.mk rfl
      · skip
        exact absurd (show (0 : Int32) ≤ 1 from by decide) h1
    | succ d ih =>
      intro hd
      refine V_go 2 rfl ?_
      refine V_icmp_le rfl (fun h1 => ?_) (fun h1 => ?_)
      · skip
        refine V_go 1 rfl ?_
        refine V_iret rfl rfl rfl ?_
        refine RI.mk ?_
        rw [low, if_pos (by grind [i32_ti])]
      · skip
        refine V_go 2 rfl ?_
        have hd0 : ¬ d = 0 := by grind [i32_ti]
        refine V_irem0 rfl ((rem_ok b hb (d + 1) hd (by omega)).2.2) ?_
        rw [(rem_ok b hb (d + 1) hd (by omega)).1]
        refine V_if_ne rfl (fun h2 => ?_) (fun h2 => ?_)
        · skip
          refine V_go 2 rfl ?_
          rw [low, if_neg hd0, if_neg (fun h => by first | exact absurd ((i32_z (Nat.lt_of_le_of_lt (Nat.mod_le _ _) (by omega))).mpr h.1) (by assumption) | exact absurd ((i32_z (Nat.lt_of_le_of_lt (Nat.mod_le _ _) (by omega))).mpr h.2) (by assumption))]
          refine V.st (I' := I) (L' := [(0, .int (i32 a)), (1, .int (i32 b)), (2, .int (i32 m)), (3, .int (i32 d))]) (ih (by omega)) rfl ?_
          rw [i32_p]
          exact fun _ h => h
        · skip
          refine V_go 2 rfl ?_
          refine V_irem0 rfl ((rem_ok m hm (d + 1) hd (by omega)).2.2) ?_
          rw [(rem_ok m hm (d + 1) hd (by omega)).1]
          refine V_if_ne rfl (fun h3 => ?_) (fun h3 => ?_)
          · skip
            refine V_go 2 rfl ?_
            rw [low, if_neg hd0, if_neg (fun h => by first | exact absurd ((i32_z (Nat.lt_of_le_of_lt (Nat.mod_le _ _) (by omega))).mpr h.1) (by assumption) | exact absurd ((i32_z (Nat.lt_of_le_of_lt (Nat.mod_le _ _) (by omega))).mpr h.2) (by assumption))]
            refine V.st (I' := I) (L' := [(0, .int (i32 a)), (1, .int (i32 b)), (2, .int (i32 m)), (3, .int (i32 d))]) (ih (by omega)) rfl ?_
            rw [i32_p]
            exact fun _ h => h
          · skip
            refine V_go 2 rfl ?_
            refine V_idiv rfl ((rem_ok a ha (d + 1) hd (by omega)).2.2) ?_
            rw [(rem_ok a ha (d + 1) hd (by omega)).2.1]
            refine V_iret rfl rfl rfl ?_
            refine RI.mk ?_
            rw [low, if_neg hd0, if_pos ⟨(i32_z (Nat.lt_of_le_of_lt (Nat.mod_le _ _) (by omega))).mp (by assumption), (i32_z (Nat.lt_of_le_of_lt (Nat.mod_le _ _) (by omega))).mp (by assumption)⟩]
  refine V_go 2 rfl ?_
  exact key m hm
theorem c_inLowestTermsX {x y z : Int32} {a b m : Nat} {I : I2} {J : J2} (e1 : i32 a = x) (e2 : i32 b = y) (e3 : i32 m = z) (ha : a < 21) (hb : b < 21) (hm : m < 21) : CT mX6_inLowestTerms 1 58 58 [.int x, .int y, .int z] I J RF (RI RF (i32 (low a b m m)) I J) := by
  subst e1 e2 e3
  exact c_inLowestTerms ha hb hm
def sFit (T : TV) (C : CC) (z : Int32) : Nat → Nat
  | 0 => 0
  | i + 1 => if sGo T (sDr C (z + i32 i) (nC C)).1 ≤ C 0 1 then sFit T C z i + 1 else sFit T C z i
theorem sFit_le (T : TV) (C : CC) (z : Int32) : ∀ i, sFit T C z i ≤ i
  | 0 => Nat.le_refl _
  | i + 1 => by
    have h := sFit_le T C z i
    rw [sFit]
    split <;> omega
def sChan (T : TV) (C : CC) (z : Int32) (m : Nat) (w : Int32) : Nat := low (if w = 0 then sFit T C z m else m) (sFit T C z m) m m
def sChance (T : TV) (C : CC) (z x w : Int32) : Int64 := if (1 ≤ x ∧ x ≤ 20) ∧ (w = 0 ∨ w = 1) then (i32 (sChan T C z x.toNatClampNeg w)).toInt64 else -4611686018427387904
def DrI (I I1 : I2) (T : TV) (D : CC) : Prop := Th I I1 T D ∧ D 0 = cOf I 7 0 ∧ ∀ z, (sDr D z (nC (cOf I 7))).1 = (sDr (cOf I 7) z (nC (cOf I 7))).1
theorem DrI.nx {I I1 I9 : I2} {T : TV} {D : CC} {z : Int32} (h : DrI I I1 T D) (e : cOf I9 15 = (sDr (cOf I1 15) z (nC (cOf I1 15))).1) (q : Fr 15 I1 I9) : DrI I I9 T (sDr (cOf I 7) z (nC (cOf I 7))).1 := by
  obtain ⟨h1, h2, h3⟩ := h
  have h4 := h1.draw e q
  rw [show nC D = nC (cOf I 7) from by unfold nC; rw [h2], h3] at h4
  exact ⟨h4, sDr_0 _ _ _, fun z' => sDr_2 _ _ _ _⟩
theorem DrI.sq {I I1 I9 : I2} {T : TV} {D : CC} (h : DrI I I1 T D) (q : Sq 15 I1 I9) : DrI I I9 T D := ⟨h.1.sq q, h.2⟩
theorem DrI.len {I I1 : I2} {T : TV} {D : CC} (h : DrI I I1 T D) : I1 15 3 = cOf I 7 0 1 := (h.1.1.1 1 (by omega)).trans (congrFun h.2.1 1)

theorem c_chance {z x w : Int32} {I : I2} {J : J2} {T : TV} (hC : Cok I 7 T) : CT mX6_chance 9 58 58 [.ref 0, .int z, .int x, .int w] I J RF (RLg RF (fun r I1 J1 => r = sChance T (cOf I 7) z x w ∧ J1 = J ∧ Scr I I1)) := by
  obtain ⟨hN8, hM6⟩ := nC8 hC
  obtain ⟨hev, hp, hp1⟩ := evr hC
  have k24 : ((1 ≤ x ∧ x ≤ 20) ∧ (w = 0 ∨ w = 1)) → V mX6_chance none 9 58 (RLg RF (fun r I1 J1 => r = sChance T (cOf I 7) z x w ∧ J1 = J ∧ Scr I I1)) 24 [(0, .ref 0), (1, .int z), (2, .int x), (3, .int w)] [] 58 I J RF := by
    intro pw
    have px0 : 0 ≤ x := by grind
    have px := xn px0
    have p20 : x.toNatClampNeg < 21 := by have := tcn x px0; grind
    have key : ∀ n, Hid (∀ (i : Nat) (I1 : I2) (D : CC), i + n = x.toNatClampNeg → DrI I I1 T D → V mX6_chance none 9 58 (RLg RF (fun r I1 J1 => r = sChance T (cOf I 7) z x w ∧ J1 = J ∧ Scr I I1)) 41 [(0, .ref 0), (1, .int z), (2, .int x), (3, .int w), (4, .int (i32 (sFit T (cOf I 7) z (i)))), (5, .int (i32 (i)))] [] 58 I1 J RF) := by
      intro n
      induction n with
      | zero =>
        unfold Hid
        intro i I1 D hi hs
        refine V_go 2 rfl ?_
        refine V_icmp_ge rfl (fun h1 => ?_) (fun h1 => ?_)
        · skip
          refine V_go 1 rfl ?_
          refine V_if_ne rfl (fun h2 => ?_) (fun h2 => ?_)
          · skip
            refine V_go 3 rfl ?_
            refine cSI (mt' := mX6_inLowestTerms) rfl kX6_249 fX6_inLowestTerms rfl (Nat.le_of_ble_eq_true rfl) (Nat.le_of_ble_eq_true rfl) (Nat.le_refl _) (c_inLowestTermsX (a := x.toNatClampNeg) (b := sFit T (cOf I 7) z x.toNatClampNeg) (m := x.toNatClampNeg) px (by rw [show i = x.toNatClampNeg from hi]) px (by omega) (by have := sFit_le T (cOf I 7) z x.toNatClampNeg; omega) (by omega)) ?_
            refine V_go 1 rfl ?_
            refine V_lret rfl rfl rfl ?_
            refine RLg.mk ⟨?_, rfl, hs.1.2.2⟩
            unfold sChance sChan
            rw [if_pos pw, if_neg (by assumption)]
          · skip
            refine V_go 4 rfl ?_
            refine cSI (mt' := mX6_inLowestTerms) rfl kX6_249 fX6_inLowestTerms rfl (Nat.le_of_ble_eq_true rfl) (Nat.le_of_ble_eq_true rfl) (Nat.le_refl _) (c_inLowestTermsX (a := sFit T (cOf I 7) z x.toNatClampNeg) (b := sFit T (cOf I 7) z x.toNatClampNeg) (m := x.toNatClampNeg) (by rw [show i = x.toNatClampNeg from hi]) (by rw [show i = x.toNatClampNeg from hi]) px (by have := sFit_le T (cOf I 7) z x.toNatClampNeg; omega) (by have := sFit_le T (cOf I 7) z x.toNatClampNeg; omega) (by omega)) ?_
            refine V_go 1 rfl ?_
            refine V_lret rfl rfl rfl ?_
            refine RLg.mk ⟨?_, rfl, hs.1.2.2⟩
            unfold sChance sChan
            rw [if_pos pw, if_pos (by assumption)]
        · skip
          exfalso
          exact h1 (by rw [← px, show i = x.toNatClampNeg from hi]; exact Int32.le_refl _)
      | succ n ih =>
        unfold Hid
        intro i I1 D hi hs
        refine V_go 2 rfl ?_
        refine V_icmp_ge rfl (fun h1 => ?_) (fun h1 => ?_)
        · skip
          exfalso
          rw [← px] at h1
          exact lp_more (by omega) (by omega) h1
        · skip
          refine V_go 5 rfl ?_
          refine cVW (mt' := mX0_drawBribes) rfl kX6_243 fX0_drawBribes rfl rfl rfl (Nat.le_of_ble_eq_true rfl) (Nat.le_of_ble_eq_true rfl) (Nat.le_of_ble_eq_true rfl) (Nat.le_of_ble_eq_true rfl) (Nat.le_refl _) (c_drawBribes hs.1.2.1) ?_
          intro Ir2 Jr2 h2
          obtain ⟨hd, rfl, hq2⟩ := h2
          have hs2 := hs.nx hd hq2
          refine V_go 2 rfl ?_
          refine cVP (mt' := mX0_spentByList) rfl kX6_220 fX0_spentByList rfl rfl rfl (Nat.le_of_ble_eq_true rfl) (Nat.le_of_ble_eq_true rfl) (Nat.le_of_ble_eq_true rfl) (Nat.le_of_ble_eq_true rfl) (Nat.le_refl _) (c_spentByList hs2.1.2.1) ?_
          intro r3 Ir3 Jr3 h3
          obtain ⟨hv, rfl, hq3⟩ := h3
          rw [hs2.1.go] at hv
          subst hv
          have hs3 := hs2.sq hq3
          refine V_go 3 rfl ?_
          refine V_icmp_gt rfl (fun h4 => ?_) (fun h4 => ?_)
          · skip
            rw [hs3.len] at h4
            refine V_go 2 rfl ?_
            refine V.st (I' := Ir3) (L' := [(0, .ref 0), (1, .int z), (2, .int x), (3, .int w), (4, .int (i32 (sFit T (cOf I 7) z (i + 1)))), (5, .int (i32 (i + 1)))]) (ih.un (i + 1) Ir3 _ (by omega) hs3) rfl ?_
            rw [i32_s, sFit, if_neg (by grind)]
            simp [i32_s]
          · skip
            rw [hs3.len] at h4
            refine V_go 3 rfl ?_
            refine V.st (I' := Ir3) (L' := [(0, .ref 0), (1, .int z), (2, .int x), (3, .int w), (4, .int (i32 (sFit T (cOf I 7) z (i + 1)))), (5, .int (i32 (i + 1)))]) (ih.un (i + 1) Ir3 _ (by omega) hs3) rfl ?_
            rw [i32_s, sFit, if_pos (by grind)]
            simp [i32_s]
    refine V_go 4 rfl ?_
    refine cVW (mt' := mX0_become) rfl kX6_173 fX0_become rfl rfl rfl (Nat.le_of_ble_eq_true rfl) (Nat.le_of_ble_eq_true rfl) (Nat.le_of_ble_eq_true rfl) (Nat.le_of_ble_eq_true rfl) (Nat.le_refl _) (c_become_15_7) ?_
    intro Ir1 Jr1 h1
    obtain ⟨rfl, hc, hq⟩ := h1
    have ht := Th.bec hC Scr.rf hq hc
    refine V_go 4 rfl ?_
    exact (key _).un 0 _ _ (Nat.zero_add _) ⟨ht, rfl, fun _ => rfl⟩
  refine CT_of okX6_chance (Nat.le_of_ble_eq_true rfl) ?_
  show V _ _ _ _ _ _ [(0, _), (1, _), (2, _), (3, _)] _ _ _ _ _
  refine V_go 2 rfl ?_
  refine V_icmp_lt rfl (fun h1 => ?_) (fun h1 => ?_)
  · skip
    refine V_go 1 rfl ?_
    refine V_lret rfl rfl rfl ?_
    refine RLg.mk ⟨?_, rfl, Scr.rf⟩
    unfold sChance
    refine (if_neg ?_).symm
    rintro ⟨⟨k1, k2⟩, k3⟩
    first
      | grind
      | (rcases k3 with h | h <;> contradiction)
  · skip
    refine V_go 2 rfl ?_
    refine V_icmp_gt rfl (fun h2 => ?_) (fun h2 => ?_)
    · skip
      refine V_go 1 rfl ?_
      refine V_lret rfl rfl rfl ?_
      refine RLg.mk ⟨?_, rfl, Scr.rf⟩
      unfold sChance
      refine (if_neg ?_).symm
      rintro ⟨⟨k1, k2⟩, k3⟩
      first
        | grind
        | (rcases k3 with h | h <;> contradiction)
    · skip
      refine V_go 1 rfl ?_
      refine V_if_eq rfl (fun h3 => ?_) (fun h3 => ?_)
      · skip
        exact k24 ⟨by grind, by first | exact Or.inl (by assumption) | exact Or.inr (by assumption)⟩
      · skip
        refine V_go 2 rfl ?_
        refine V_icmp_eq rfl (fun h4 => ?_) (fun h4 => ?_)
        · skip
          exact k24 ⟨by grind, by first | exact Or.inl (by assumption) | exact Or.inr (by assumption)⟩
        · skip
          refine V_go 1 rfl ?_
          refine V_lret rfl rfl rfl ?_
          refine RLg.mk ⟨?_, rfl, Scr.rf⟩
          unfold sChance
          refine (if_neg ?_).symm
          rintro ⟨⟨k1, k2⟩, k3⟩
          first
            | grind
            | (rcases k3 with h | h <;> contradiction)
end
