-- ===== PART A: goes FIRST, ahead of the names: the tables' words, and 'selects' of the private methods out of them =====
/-- a private method of a class that the tables say can be made, by its rows of tables_1 -/
def lw_okq (q : MethodName × Nat) : Prop := (q.1.cls ≠ "java/lang/invoke/MethodHandle" ∧ q.1.cls ≠ "java/lang/invoke/VarHandle") ∧ Cond.instantiable q.1.cls q.2 ∈ tables_1 ∧ Cond.privateMethod q.1 ∈ tables_1 ∧ Cond.instanceMethod q.1 ∈ tables_1
theorem lw_p0 : lw_okq (⟨"SelfChange", "beginKeeping", "()V"⟩, 16) := ⟨⟨by decide +kernel, by decide +kernel⟩, List.mem_of_getElem? (i := 22) (by decide +kernel), List.mem_of_getElem? (i := 278) (by decide +kernel), List.mem_of_getElem? (i := 279) (by decide +kernel)⟩
theorem lw_p1 : lw_okq (⟨"SelfChange", "endKeeping", "()I"⟩, 16) := ⟨⟨by decide +kernel, by decide +kernel⟩, List.mem_of_getElem? (i := 22) (by decide +kernel), List.mem_of_getElem? (i := 297) (by decide +kernel), List.mem_of_getElem? (i := 298) (by decide +kernel)⟩
theorem lw_p2 : lw_okq (⟨"SelfChange", "layDroppedAside", "()I"⟩, 16) := ⟨⟨by decide +kernel, by decide +kernel⟩, List.mem_of_getElem? (i := 22) (by decide +kernel), List.mem_of_getElem? (i := 305) (by decide +kernel), List.mem_of_getElem? (i := 306) (by decide +kernel)⟩
theorem lw_p3 : lw_okq (⟨"SelfChange$Routine", "exchange", "()V"⟩, 5) := ⟨⟨by decide +kernel, by decide +kernel⟩, List.mem_of_getElem? (i := 127) (by decide +kernel), List.mem_of_getElem? (i := 327) (by decide +kernel), List.mem_of_getElem? (i := 328) (by decide +kernel)⟩
theorem lw_p4 : lw_okq (⟨"SelfChange$Member", "addHead", "(I)Z"⟩, 4) := ⟨⟨by decide +kernel, by decide +kernel⟩, List.mem_of_getElem? (i := 102) (by decide +kernel), List.mem_of_getElem? (i := 359) (by decide +kernel), List.mem_of_getElem? (i := 360) (by decide +kernel)⟩
theorem lw_p5 : lw_okq (⟨"SelfChange$Member", "addHeadsBehind", "([II)Z"⟩, 4) := ⟨⟨by decide +kernel, by decide +kernel⟩, List.mem_of_getElem? (i := 102) (by decide +kernel), List.mem_of_getElem? (i := 367) (by decide +kernel), List.mem_of_getElem? (i := 368) (by decide +kernel)⟩
theorem lw_p6 : lw_okq (⟨"SelfChange$Member", "sortHeads", "()V"⟩, 4) := ⟨⟨by decide +kernel, by decide +kernel⟩, List.mem_of_getElem? (i := 102) (by decide +kernel), List.mem_of_getElem? (i := 378) (by decide +kernel), List.mem_of_getElem? (i := 379) (by decide +kernel)⟩
theorem lw_p7 : lw_okq (⟨"SelfChange$Member", "decode", "([I)V"⟩, 4) := ⟨⟨by decide +kernel, by decide +kernel⟩, List.mem_of_getElem? (i := 102) (by decide +kernel), List.mem_of_getElem? (i := 382) (by decide +kernel), List.mem_of_getElem? (i := 383) (by decide +kernel)⟩
theorem lw_p8 : lw_okq (⟨"SelfChange$Member", "hasActsThatMeet", "()Z"⟩, 4) := ⟨⟨by decide +kernel, by decide +kernel⟩, List.mem_of_getElem? (i := 102) (by decide +kernel), List.mem_of_getElem? (i := 386) (by decide +kernel), List.mem_of_getElem? (i := 387) (by decide +kernel)⟩
theorem lw_p9 : lw_okq (⟨"SelfChange", "giveMember", "(I)V"⟩, 16) := ⟨⟨by decide +kernel, by decide +kernel⟩, List.mem_of_getElem? (i := 22) (by decide +kernel), List.mem_of_getElem? (i := 391) (by decide +kernel), List.mem_of_getElem? (i := 392) (by decide +kernel)⟩
theorem lw_p10 : lw_okq (⟨"SelfChange", "isNoRoutine", "(I)Z"⟩, 16) := ⟨⟨by decide +kernel, by decide +kernel⟩, List.mem_of_getElem? (i := 22) (by decide +kernel), List.mem_of_getElem? (i := 399) (by decide +kernel), List.mem_of_getElem? (i := 400) (by decide +kernel)⟩
theorem lw_p11 : lw_okq (⟨"SelfChange", "refusalOfRun", "(II)I"⟩, 16) := ⟨⟨by decide +kernel, by decide +kernel⟩, List.mem_of_getElem? (i := 22) (by decide +kernel), List.mem_of_getElem? (i := 415) (by decide +kernel), List.mem_of_getElem? (i := 416) (by decide +kernel)⟩
theorem lw_p12 : lw_okq (⟨"SelfChange$Course", "enter", "(II)V"⟩, 16) := ⟨⟨by decide +kernel, by decide +kernel⟩, List.mem_of_getElem? (i := 157) (by decide +kernel), List.mem_of_getElem? (i := 427) (by decide +kernel), List.mem_of_getElem? (i := 428) (by decide +kernel)⟩
theorem lw_p13 : lw_okq (⟨"SelfChange$Course", "step", "(I)V"⟩, 16) := ⟨⟨by decide +kernel, by decide +kernel⟩, List.mem_of_getElem? (i := 157) (by decide +kernel), List.mem_of_getElem? (i := 438) (by decide +kernel), List.mem_of_getElem? (i := 439) (by decide +kernel)⟩
theorem lw_p14 : lw_okq (⟨"SelfChange$Course", "fetchFromMember", "()Z"⟩, 16) := ⟨⟨by decide +kernel, by decide +kernel⟩, List.mem_of_getElem? (i := 157) (by decide +kernel), List.mem_of_getElem? (i := 442) (by decide +kernel), List.mem_of_getElem? (i := 443) (by decide +kernel)⟩
theorem lw_p15 : lw_okq (⟨"SelfChange$Course", "leave", "()V"⟩, 16) := ⟨⟨by decide +kernel, by decide +kernel⟩, List.mem_of_getElem? (i := 157) (by decide +kernel), List.mem_of_getElem? (i := 450) (by decide +kernel), List.mem_of_getElem? (i := 451) (by decide +kernel)⟩
def lw_privs_1 : List (MethodName × Nat) := [(⟨"SelfChange", "beginKeeping", "()V"⟩, 16), (⟨"SelfChange", "endKeeping", "()I"⟩, 16), (⟨"SelfChange", "layDroppedAside", "()I"⟩, 16), (⟨"SelfChange$Routine", "exchange", "()V"⟩, 5), (⟨"SelfChange$Member", "addHead", "(I)Z"⟩, 4), (⟨"SelfChange$Member", "addHeadsBehind", "([II)Z"⟩, 4), (⟨"SelfChange$Member", "sortHeads", "()V"⟩, 4), (⟨"SelfChange$Member", "decode", "([I)V"⟩, 4), (⟨"SelfChange$Member", "hasActsThatMeet", "()Z"⟩, 4), (⟨"SelfChange", "giveMember", "(I)V"⟩, 16), (⟨"SelfChange", "isNoRoutine", "(I)Z"⟩, 16), (⟨"SelfChange", "refusalOfRun", "(II)I"⟩, 16), (⟨"SelfChange$Course", "enter", "(II)V"⟩, 16), (⟨"SelfChange$Course", "step", "(I)V"⟩, 16), (⟨"SelfChange$Course", "fetchFromMember", "()Z"⟩, 16), (⟨"SelfChange$Course", "leave", "()V"⟩, 16)]
theorem lw_r1 : ∀ q ∈ lw_privs_1, lw_okq q := List.forall_mem_cons.mpr ⟨lw_p0, List.forall_mem_cons.mpr ⟨lw_p1, List.forall_mem_cons.mpr ⟨lw_p2, List.forall_mem_cons.mpr ⟨lw_p3, List.forall_mem_cons.mpr ⟨lw_p4, List.forall_mem_cons.mpr ⟨lw_p5, List.forall_mem_cons.mpr ⟨lw_p6, List.forall_mem_cons.mpr ⟨lw_p7, List.forall_mem_cons.mpr ⟨lw_p8, List.forall_mem_cons.mpr ⟨lw_p9, List.forall_mem_cons.mpr ⟨lw_p10, List.forall_mem_cons.mpr ⟨lw_p11, List.forall_mem_cons.mpr ⟨lw_p12, List.forall_mem_cons.mpr ⟨lw_p13, List.forall_mem_cons.mpr ⟨lw_p14, List.forall_mem_cons.mpr ⟨lw_p15, fun _ h => absurd h List.not_mem_nil⟩⟩⟩⟩⟩⟩⟩⟩⟩⟩⟩⟩⟩⟩⟩⟩
theorem lw_p16 : lw_okq (⟨"SelfChange$Course", "enterCalled", "(II)V"⟩, 16) := ⟨⟨by decide +kernel, by decide +kernel⟩, List.mem_of_getElem? (i := 157) (by decide +kernel), List.mem_of_getElem? (i := 454) (by decide +kernel), List.mem_of_getElem? (i := 455) (by decide +kernel)⟩
theorem lw_p17 : lw_okq (⟨"SelfChange$Course", "goesElsewhere", "()Z"⟩, 16) := ⟨⟨by decide +kernel, by decide +kernel⟩, List.mem_of_getElem? (i := 157) (by decide +kernel), List.mem_of_getElem? (i := 459) (by decide +kernel), List.mem_of_getElem? (i := 460) (by decide +kernel)⟩
theorem lw_p18 : lw_okq (⟨"SelfChange$Course", "doPlainAct", "()V"⟩, 16) := ⟨⟨by decide +kernel, by decide +kernel⟩, List.mem_of_getElem? (i := 157) (by decide +kernel), List.mem_of_getElem? (i := 463) (by decide +kernel), List.mem_of_getElem? (i := 464) (by decide +kernel)⟩
theorem lw_p19 : lw_okq (⟨"SelfChange$Course", "swap", "()V"⟩, 16) := ⟨⟨by decide +kernel, by decide +kernel⟩, List.mem_of_getElem? (i := 157) (by decide +kernel), List.mem_of_getElem? (i := 467) (by decide +kernel), List.mem_of_getElem? (i := 468) (by decide +kernel)⟩
theorem lw_p20 : lw_okq (⟨"SelfChange", "returnTo", "([I)I"⟩, 16) := ⟨⟨by decide +kernel, by decide +kernel⟩, List.mem_of_getElem? (i := 22) (by decide +kernel), List.mem_of_getElem? (i := 520) (by decide +kernel), List.mem_of_getElem? (i := 521) (by decide +kernel)⟩
theorem lw_p21 : lw_okq (⟨"SelfChange", "bringBack", "()I"⟩, 16) := ⟨⟨by decide +kernel, by decide +kernel⟩, List.mem_of_getElem? (i := 22) (by decide +kernel), List.mem_of_getElem? (i := 524) (by decide +kernel), List.mem_of_getElem? (i := 525) (by decide +kernel)⟩
theorem lw_p22 : lw_okq (⟨"SelfChange", "countWalkedForGood", "()I"⟩, 16) := ⟨⟨by decide +kernel, by decide +kernel⟩, List.mem_of_getElem? (i := 22) (by decide +kernel), List.mem_of_getElem? (i := 553) (by decide +kernel), List.mem_of_getElem? (i := 554) (by decide +kernel)⟩
theorem lw_p23 : lw_okq (⟨"java/lang/NullPointerException", "getExtendedNPEMessage", "()Ljava/lang/String;"⟩, 8) := ⟨⟨by decide +kernel, by decide +kernel⟩, List.mem_of_getElem? (i := 612) (by decide +kernel), List.mem_of_getElem? (i := 610) (by decide +kernel), List.mem_of_getElem? (i := 611) (by decide +kernel)⟩
theorem lw_p24 : lw_okq (⟨"java/lang/Throwable", "fillInStackTrace", "(I)Ljava/lang/Throwable;"⟩, 6) := ⟨⟨by decide +kernel, by decide +kernel⟩, List.mem_of_getElem? (i := 621) (by decide +kernel), List.mem_of_getElem? (i := 619) (by decide +kernel), List.mem_of_getElem? (i := 620) (by decide +kernel)⟩
theorem lw_p25 : lw_okq (⟨"SelfChangeModel", "note", "()V"⟩, 40) := ⟨⟨by decide +kernel, by decide +kernel⟩, List.mem_of_getElem? (i := 738) (by decide +kernel), List.mem_of_getElem? (i := 877) (by decide +kernel), List.mem_of_getElem? (i := 878) (by decide +kernel)⟩
theorem lw_p26 : lw_okq (⟨"SelfChangeModel", "becomes", "(II)I"⟩, 40) := ⟨⟨by decide +kernel, by decide +kernel⟩, List.mem_of_getElem? (i := 738) (by decide +kernel), List.mem_of_getElem? (i := 882) (by decide +kernel), List.mem_of_getElem? (i := 883) (by decide +kernel)⟩
theorem lw_p27 : lw_okq (⟨"SelfChangeModel", "isLooked", "(I)Z"⟩, 40) := ⟨⟨by decide +kernel, by decide +kernel⟩, List.mem_of_getElem? (i := 738) (by decide +kernel), List.mem_of_getElem? (i := 886) (by decide +kernel), List.mem_of_getElem? (i := 887) (by decide +kernel)⟩
theorem lw_p28 : lw_okq (⟨"SelfChangeModel", "drop", "(I)V"⟩, 40) := ⟨⟨by decide +kernel, by decide +kernel⟩, List.mem_of_getElem? (i := 738) (by decide +kernel), List.mem_of_getElem? (i := 890) (by decide +kernel), List.mem_of_getElem? (i := 891) (by decide +kernel)⟩
theorem lw_p29 : lw_okq (⟨"SelfChangeModel", "keep", "()V"⟩, 40) := ⟨⟨by decide +kernel, by decide +kernel⟩, List.mem_of_getElem? (i := 738) (by decide +kernel), List.mem_of_getElem? (i := 894) (by decide +kernel), List.mem_of_getElem? (i := 895) (by decide +kernel)⟩
theorem lw_p30 : lw_okq (⟨"SelfChangeModel", "find", "(I)Z"⟩, 40) := ⟨⟨by decide +kernel, by decide +kernel⟩, List.mem_of_getElem? (i := 738) (by decide +kernel), List.mem_of_getElem? (i := 914) (by decide +kernel), List.mem_of_getElem? (i := 915) (by decide +kernel)⟩
theorem lw_p31 : lw_okq (⟨"SelfChangeModel", "behind", "(I)I"⟩, 40) := ⟨⟨by decide +kernel, by decide +kernel⟩, List.mem_of_getElem? (i := 738) (by decide +kernel), List.mem_of_getElem? (i := 921) (by decide +kernel), List.mem_of_getElem? (i := 922) (by decide +kernel)⟩
def lw_privs_2 : List (MethodName × Nat) := [(⟨"SelfChange$Course", "enterCalled", "(II)V"⟩, 16), (⟨"SelfChange$Course", "goesElsewhere", "()Z"⟩, 16), (⟨"SelfChange$Course", "doPlainAct", "()V"⟩, 16), (⟨"SelfChange$Course", "swap", "()V"⟩, 16), (⟨"SelfChange", "returnTo", "([I)I"⟩, 16), (⟨"SelfChange", "bringBack", "()I"⟩, 16), (⟨"SelfChange", "countWalkedForGood", "()I"⟩, 16), (⟨"java/lang/NullPointerException", "getExtendedNPEMessage", "()Ljava/lang/String;"⟩, 8), (⟨"java/lang/Throwable", "fillInStackTrace", "(I)Ljava/lang/Throwable;"⟩, 6), (⟨"SelfChangeModel", "note", "()V"⟩, 40), (⟨"SelfChangeModel", "becomes", "(II)I"⟩, 40), (⟨"SelfChangeModel", "isLooked", "(I)Z"⟩, 40), (⟨"SelfChangeModel", "drop", "(I)V"⟩, 40), (⟨"SelfChangeModel", "keep", "()V"⟩, 40), (⟨"SelfChangeModel", "find", "(I)Z"⟩, 40), (⟨"SelfChangeModel", "behind", "(I)I"⟩, 40)]
theorem lw_r2 : ∀ q ∈ lw_privs_2, lw_okq q := List.forall_mem_cons.mpr ⟨lw_p16, List.forall_mem_cons.mpr ⟨lw_p17, List.forall_mem_cons.mpr ⟨lw_p18, List.forall_mem_cons.mpr ⟨lw_p19, List.forall_mem_cons.mpr ⟨lw_p20, List.forall_mem_cons.mpr ⟨lw_p21, List.forall_mem_cons.mpr ⟨lw_p22, List.forall_mem_cons.mpr ⟨lw_p23, List.forall_mem_cons.mpr ⟨lw_p24, List.forall_mem_cons.mpr ⟨lw_p25, List.forall_mem_cons.mpr ⟨lw_p26, List.forall_mem_cons.mpr ⟨lw_p27, List.forall_mem_cons.mpr ⟨lw_p28, List.forall_mem_cons.mpr ⟨lw_p29, List.forall_mem_cons.mpr ⟨lw_p30, List.forall_mem_cons.mpr ⟨lw_p31, fun _ h => absurd h List.not_mem_nil⟩⟩⟩⟩⟩⟩⟩⟩⟩⟩⟩⟩⟩⟩⟩⟩
theorem lw_p32 : lw_okq (⟨"SelfChangeModel", "other", "(I)I"⟩, 40) := ⟨⟨by decide +kernel, by decide +kernel⟩, List.mem_of_getElem? (i := 738) (by decide +kernel), List.mem_of_getElem? (i := 925) (by decide +kernel), List.mem_of_getElem? (i := 926) (by decide +kernel)⟩
theorem lw_p33 : lw_okq (⟨"SelfChangeModel", "isRoutine", "(I)Z"⟩, 40) := ⟨⟨by decide +kernel, by decide +kernel⟩, List.mem_of_getElem? (i := 738) (by decide +kernel), List.mem_of_getElem? (i := 933) (by decide +kernel), List.mem_of_getElem? (i := 934) (by decide +kernel)⟩
theorem lw_p34 : lw_okq (⟨"SelfChangeModel", "countOf", "(IZ)I"⟩, 40) := ⟨⟨by decide +kernel, by decide +kernel⟩, List.mem_of_getElem? (i := 738) (by decide +kernel), List.mem_of_getElem? (i := 937) (by decide +kernel), List.mem_of_getElem? (i := 938) (by decide +kernel)⟩
theorem lw_p35 : lw_okq (⟨"SelfChangeModel", "act", "(I)I"⟩, 40) := ⟨⟨by decide +kernel, by decide +kernel⟩, List.mem_of_getElem? (i := 738) (by decide +kernel), List.mem_of_getElem? (i := 953) (by decide +kernel), List.mem_of_getElem? (i := 954) (by decide +kernel)⟩
theorem lw_p36 : lw_okq (⟨"SelfChangeModel", "calls", "(II)I"⟩, 40) := ⟨⟨by decide +kernel, by decide +kernel⟩, List.mem_of_getElem? (i := 738) (by decide +kernel), List.mem_of_getElem? (i := 957) (by decide +kernel), List.mem_of_getElem? (i := 958) (by decide +kernel)⟩
theorem lw_p37 : lw_okq (⟨"SelfChangeModel", "works", "(II)V"⟩, 40) := ⟨⟨by decide +kernel, by decide +kernel⟩, List.mem_of_getElem? (i := 738) (by decide +kernel), List.mem_of_getElem? (i := 961) (by decide +kernel), List.mem_of_getElem? (i := 962) (by decide +kernel)⟩
theorem lw_p38 : lw_okq (⟨"SelfChangeModel", "changes", "(II)V"⟩, 40) := ⟨⟨by decide +kernel, by decide +kernel⟩, List.mem_of_getElem? (i := 738) (by decide +kernel), List.mem_of_getElem? (i := 965) (by decide +kernel), List.mem_of_getElem? (i := 966) (by decide +kernel)⟩
theorem lw_p39 : lw_okq (⟨"SelfChangeModel", "returned", "()I"⟩, 40) := ⟨⟨by decide +kernel, by decide +kernel⟩, List.mem_of_getElem? (i := 738) (by decide +kernel), List.mem_of_getElem? (i := 990) (by decide +kernel), List.mem_of_getElem? (i := 991) (by decide +kernel)⟩
theorem lw_p40 : lw_okq (⟨"SelfChangeModel", "isAsMade", "(I)Z"⟩, 40) := ⟨⟨by decide +kernel, by decide +kernel⟩, List.mem_of_getElem? (i := 738) (by decide +kernel), List.mem_of_getElem? (i := 994) (by decide +kernel), List.mem_of_getElem? (i := 995) (by decide +kernel)⟩
def lw_privs_3 : List (MethodName × Nat) := [(⟨"SelfChangeModel", "other", "(I)I"⟩, 40), (⟨"SelfChangeModel", "isRoutine", "(I)Z"⟩, 40), (⟨"SelfChangeModel", "countOf", "(IZ)I"⟩, 40), (⟨"SelfChangeModel", "act", "(I)I"⟩, 40), (⟨"SelfChangeModel", "calls", "(II)I"⟩, 40), (⟨"SelfChangeModel", "works", "(II)V"⟩, 40), (⟨"SelfChangeModel", "changes", "(II)V"⟩, 40), (⟨"SelfChangeModel", "returned", "()I"⟩, 40), (⟨"SelfChangeModel", "isAsMade", "(I)Z"⟩, 40)]
theorem lw_r3 : ∀ q ∈ lw_privs_3, lw_okq q := List.forall_mem_cons.mpr ⟨lw_p32, List.forall_mem_cons.mpr ⟨lw_p33, List.forall_mem_cons.mpr ⟨lw_p34, List.forall_mem_cons.mpr ⟨lw_p35, List.forall_mem_cons.mpr ⟨lw_p36, List.forall_mem_cons.mpr ⟨lw_p37, List.forall_mem_cons.mpr ⟨lw_p38, List.forall_mem_cons.mpr ⟨lw_p39, List.forall_mem_cons.mpr ⟨lw_p40, fun _ h => absurd h List.not_mem_nil⟩⟩⟩⟩⟩⟩⟩⟩⟩
def lw_privs : List (MethodName × Nat) := lw_privs_1 ++ (lw_privs_2 ++ (lw_privs_3))
def lw_tbl : List Cond := k2_sels lw_privs ++ tables_1
theorem lw_privs_ok : ∀ q ∈ lw_privs, lw_okq q := by
  show ∀ q ∈ lw_privs_1 ++ (lw_privs_2 ++ (lw_privs_3)), lw_okq q
  exact List.forall_mem_append.mpr ⟨lw_r1, List.forall_mem_append.mpr ⟨lw_r2, lw_r3⟩⟩
def RX0 : String := "SelfChange$Course"
def TX0 : u_T := fun k => match k with
  | 0 => ("SelfChange$Course", "memory", "LSelfChange$Memory;", true)
  | 1 => ("SelfChange$Course", "routines", "[LSelfChange$Routine;", true)
  | 2 => ("SelfChange$Course", "within", "[I", true)
  | 3 => ("SelfChange$Course", "behindCall", "[I", true)
  | 4 => ("SelfChange$Course", "depth", "I", false)
  | 5 => ("SelfChange$Course", "deepest", "I", false)
  | 6 => ("SelfChange$Course", "a", "I", false)
  | 7 => ("SelfChange$Course", "b", "I", false)
  | 8 => ("SelfChange$Course", "place", "I", false)
  | 9 => ("SelfChange$Course", "kind", "I", false)
  | 10 => ("SelfChange$Course", "operand", "I", false)
  | 11 => ("SelfChange$Course", "byMembers", "I", false)
  | 12 => ("SelfChange$Course", "walked", "I", false)
  | 13 => ("SelfChange$Course", "dropped", "I", false)
  | 14 => ("SelfChange$Course", "changes", "I", false)
  | _ => ("SelfChange$Course", "answer", "I", false)
def tyX0 : Nat → FieldType := fun k => match k with
  | 0 => .object "SelfChange$Memory"
  | 1 => .array (.object "SelfChange$Routine")
  | 2 => .array .int
  | 3 => .array .int
  | 4 => .int
  | 5 => .int
  | 6 => .int
  | 7 => .int
  | 8 => .int
  | 9 => .int
  | 10 => .int
  | 11 => .int
  | 12 => .int
  | 13 => .int
  | 14 => .int
  | _ => .int
abbrev wsX00 : List Cond := u_ws RX0 TX0 16
theorem nmX0 : ∀ a, a < 16 → ∀ b, b < 16 → a ≠ b → (TX0 a).2.1 ≠ (TX0 b).2.1 := by decide +kernel
theorem tyX0_ok : ∀ k, k < 16 → parseFieldDescriptor (TX0 k).2.2.1 = some (tyX0 k) := by decide +kernel
abbrev cX0_init : ByteArray := prog_2_method_1_code
def yX0_init : MethodName := ⟨RX0, "<init>", "(LSelfChange$Memory;[LSelfChange$Routine;)V"⟩
abbrev cX0_empty : ByteArray := prog_2_method_2_code
def yX0_empty : MethodName := ⟨RX0, "empty", "()V"⟩
abbrev cX0_begin : ByteArray := prog_2_method_3_code
def yX0_begin : MethodName := ⟨RX0, "begin", "(III)V"⟩
abbrev cX0_steps : ByteArray := prog_2_method_4_code
def yX0_steps : MethodName := ⟨RX0, "steps", "()I"⟩
abbrev cX0_follow : ByteArray := prog_2_method_5_code
def yX0_follow : MethodName := ⟨RX0, "follow", "(II)V"⟩
abbrev cX0_cameToTheSameAs : ByteArray := prog_2_method_6_code
def yX0_cameToTheSameAs : MethodName := ⟨RX0, "cameToTheSameAs", "(LSelfChange$Course;)Z"⟩
abbrev cX0_enter : ByteArray := prog_2_method_7_code
def yX0_enter : MethodName := ⟨RX0, "enter", "(II)V"⟩
abbrev cX0_step : ByteArray := prog_2_method_8_code
def yX0_step : MethodName := ⟨RX0, "step", "(I)V"⟩
abbrev cX0_fetchFromMember : ByteArray := prog_2_method_9_code
def yX0_fetchFromMember : MethodName := ⟨RX0, "fetchFromMember", "()Z"⟩
abbrev cX0_leave : ByteArray := prog_2_method_10_code
def yX0_leave : MethodName := ⟨RX0, "leave", "()V"⟩
abbrev cX0_enterCalled : ByteArray := prog_2_method_11_code
def yX0_enterCalled : MethodName := ⟨RX0, "enterCalled", "(II)V"⟩
abbrev cX0_goesElsewhere : ByteArray := prog_2_method_12_code
def yX0_goesElsewhere : MethodName := ⟨RX0, "goesElsewhere", "()Z"⟩
abbrev cX0_swap : ByteArray := prog_2_method_13_code
def yX0_swap : MethodName := ⟨RX0, "swap", "()V"⟩
abbrev cX0_doPlainAct : ByteArray := prog_2_method_14_code
def yX0_doPlainAct : MethodName := ⟨RX0, "doPlainAct", "()V"⟩
def RX1 : String := "SelfChange$Cover"
def TX1 : u_T := fun k => match k with
  | 0 => ("SelfChange$Cover", "places", "[I", true)
  | _ => ("SelfChange$Cover", "pages", "[I", true)
def tyX1 : Nat → FieldType := fun k => match k with
  | 0 => .array .int
  | _ => .array .int
abbrev wsX10 : List Cond := u_ws RX1 TX1 2
theorem nmX1 : ∀ a, a < 2 → ∀ b, b < 2 → a ≠ b → (TX1 a).2.1 ≠ (TX1 b).2.1 := by decide +kernel
theorem tyX1_ok : ∀ k, k < 2 → parseFieldDescriptor (TX1 k).2.2.1 = some (tyX1 k) := by decide +kernel
abbrev cX1_init : ByteArray := prog_3_method_1_code
def yX1_init : MethodName := ⟨RX1, "<init>", "()V"⟩
abbrev cX1_mark : ByteArray := prog_3_method_2_code
def yX1_mark : MethodName := ⟨RX1, "mark", "(ILSelfChange$Member;Z)V"⟩
abbrev cX1_empty : ByteArray := prog_3_method_3_code
def yX1_empty : MethodName := ⟨RX1, "empty", "()V"⟩
def RX2 : String := "SelfChange$Kept"
def TX2 : u_T := fun k => match k with
  | 0 => ("SelfChange$Kept", "rows", "[[I", true)
  | 1 => ("SelfChange$Kept", "first", "I", false)
  | _ => ("SelfChange$Kept", "size", "I", false)
def tyX2 : Nat → FieldType := fun k => match k with
  | 0 => .array (.array .int)
  | 1 => .int
  | _ => .int
abbrev wsX20 : List Cond := u_ws RX2 TX2 3
theorem nmX2 : ∀ a, a < 3 → ∀ b, b < 3 → a ≠ b → (TX2 a).2.1 ≠ (TX2 b).2.1 := by decide +kernel
theorem tyX2_ok : ∀ k, k < 3 → parseFieldDescriptor (TX2 k).2.2.1 = some (tyX2 k) := by decide +kernel
abbrev cX2_init : ByteArray := prog_4_method_1_code
def yX2_init : MethodName := ⟨RX2, "<init>", "()V"⟩
abbrev cX2_note : ByteArray := prog_4_method_2_code
def yX2_note : MethodName := ⟨RX2, "note", "([I)V"⟩
abbrev cX2_keepNoted : ByteArray := prog_4_method_3_code
def yX2_keepNoted : MethodName := ⟨RX2, "keepNoted", "()V"⟩
abbrev cX2_takeLatest : ByteArray := prog_4_method_4_code
def yX2_takeLatest : MethodName := ⟨RX2, "takeLatest", "()[I"⟩
abbrev cX2_empty : ByteArray := prog_4_method_5_code
def yX2_empty : MethodName := ⟨RX2, "empty", "()V"⟩
def RX3 : String := "SelfChange$Member"
def TX3 : u_T := fun k => match k with
  | 0 => ("SelfChange$Member", "heads", "[I", true)
  | 1 => ("SelfChange$Member", "kinds", "[I", true)
  | 2 => ("SelfChange$Member", "operands", "[I", true)
  | _ => ("SelfChange$Member", "headCount", "I", false)
def tyX3 : Nat → FieldType := fun k => match k with
  | 0 => .array .int
  | 1 => .array .int
  | 2 => .array .int
  | _ => .int
abbrev wsX30 : List Cond := u_ws RX3 TX3 4
theorem nmX3 : ∀ a, a < 4 → ∀ b, b < 4 → a ≠ b → (TX3 a).2.1 ≠ (TX3 b).2.1 := by decide +kernel
theorem tyX3_ok : ∀ k, k < 4 → parseFieldDescriptor (TX3 k).2.2.1 = some (tyX3 k) := by decide +kernel
abbrev cX3_init : ByteArray := prog_5_method_1_code
def yX3_init : MethodName := ⟨RX3, "<init>", "()V"⟩
abbrev cX3_fill : ByteArray := prog_5_method_2_code
def yX3_fill : MethodName := ⟨RX3, "fill", "([II)Z"⟩
abbrev cX3_addHeadsBehind : ByteArray := prog_5_method_3_code
def yX3_addHeadsBehind : MethodName := ⟨RX3, "addHeadsBehind", "([II)Z"⟩
abbrev cX3_addHead : ByteArray := prog_5_method_4_code
def yX3_addHead : MethodName := ⟨RX3, "addHead", "(I)Z"⟩
abbrev cX3_sortHeads : ByteArray := prog_5_method_5_code
def yX3_sortHeads : MethodName := ⟨RX3, "sortHeads", "()V"⟩
abbrev cX3_decode : ByteArray := prog_5_method_6_code
def yX3_decode : MethodName := ⟨RX3, "decode", "([I)V"⟩
abbrev cX3_hasActsThatMeet : ByteArray := prog_5_method_7_code
def yX3_hasActsThatMeet : MethodName := ⟨RX3, "hasActsThatMeet", "()Z"⟩
abbrev cX3_indexOf : ByteArray := prog_5_method_8_code
def yX3_indexOf : MethodName := ⟨RX3, "indexOf", "(I)I"⟩
abbrev cX3_placeCount : ByteArray := prog_5_method_9_code
def yX3_placeCount : MethodName := ⟨RX3, "placeCount", "()I"⟩
abbrev cX3_isAsIn : ByteArray := prog_5_method_10_code
def yX3_isAsIn : MethodName := ⟨RX3, "isAsIn", "([I)Z"⟩
def RX4 : String := "SelfChange$Memory"
def TX4 : u_T := fun k => match k with
  | 0 => ("SelfChange$Memory", "bytes", "[I", true)
  | 1 => ("SelfChange$Memory", "cover", "LSelfChange$Cover;", true)
  | 2 => ("SelfChange$Memory", "live", "I", false)
  | 3 => ("SelfChange$Memory", "liveBefore", "I", false)
  | 4 => ("SelfChange$Memory", "looks", "I", false)
  | _ => ("SelfChange$Memory", "changes", "I", false)
def tyX4 : Nat → FieldType := fun k => match k with
  | 0 => .array .int
  | 1 => .object "SelfChange$Cover"
  | 2 => .int
  | 3 => .int
  | 4 => .int
  | _ => .int
abbrev wsX40 : List Cond := u_ws RX4 TX4 6
theorem nmX4 : ∀ a, a < 6 → ∀ b, b < 6 → a ≠ b → (TX4 a).2.1 ≠ (TX4 b).2.1 := by decide +kernel
theorem tyX4_ok : ∀ k, k < 6 → parseFieldDescriptor (TX4 k).2.2.1 = some (tyX4 k) := by decide +kernel
abbrev cX4_init : ByteArray := prog_6_method_1_code
def yX4_init : MethodName := ⟨RX4, "<init>", "(LSelfChange$Cover;)V"⟩
abbrev cX4_beginChanges : ByteArray := prog_6_method_2_code
def yX4_beginChanges : MethodName := ⟨RX4, "beginChanges", "()V"⟩
abbrev cX4_become : ByteArray := prog_6_method_3_code
def yX4_become : MethodName := ⟨RX4, "become", "(II)V"⟩
abbrev cX4_hasLive : ByteArray := prog_6_method_4_code
def yX4_hasLive : MethodName := ⟨RX4, "hasLive", "(I)Z"⟩
abbrev cX4_wasDropped : ByteArray := prog_6_method_5_code
def yX4_wasDropped : MethodName := ⟨RX4, "wasDropped", "(I)Z"⟩
abbrev cX4_copyFrom : ByteArray := prog_6_method_6_code
def yX4_copyFrom : MethodName := ⟨RX4, "copyFrom", "(LSelfChange$Memory;I)V"⟩
abbrev cX4_hasSameBytesAs : ByteArray := prog_6_method_7_code
def yX4_hasSameBytesAs : MethodName := ⟨RX4, "hasSameBytesAs", "(LSelfChange$Memory;)Z"⟩
abbrev cX4_empty : ByteArray := prog_6_method_8_code
def yX4_empty : MethodName := ⟨RX4, "empty", "()V"⟩
def RX5 : String := "SelfChange$Routine"
def TX5 : u_T := fun k => match k with
  | 0 => ("SelfChange$Routine", "current", "LSelfChange$Member;", false)
  | 1 => ("SelfChange$Routine", "aside", "LSelfChange$Member;", false)
  | 2 => ("SelfChange$Routine", "hasAside", "Z", false)
  | 3 => ("SelfChange$Routine", "place", "I", false)
  | _ => ("SelfChange$Routine", "drops", "I", false)
def tyX5 : Nat → FieldType := fun k => match k with
  | 0 => .object "SelfChange$Member"
  | 1 => .object "SelfChange$Member"
  | 2 => .boolean
  | 3 => .int
  | _ => .int
abbrev wsX50 : List Cond := u_ws RX5 TX5 5
theorem nmX5 : ∀ a, a < 5 → ∀ b, b < 5 → a ≠ b → (TX5 a).2.1 ≠ (TX5 b).2.1 := by decide +kernel
theorem tyX5_ok : ∀ k, k < 5 → parseFieldDescriptor (TX5 k).2.2.1 = some (tyX5 k) := by decide +kernel
abbrev cX5_init : ByteArray := prog_7_method_1_code
def yX5_init : MethodName := ⟨RX5, "<init>", "()V"⟩
abbrev cX5_begin : ByteArray := prog_7_method_2_code
def yX5_begin : MethodName := ⟨RX5, "begin", "(I)V"⟩
abbrev cX5_isWalkedForGood : ByteArray := prog_7_method_3_code
def yX5_isWalkedForGood : MethodName := ⟨RX5, "isWalkedForGood", "()Z"⟩
abbrev cX5_layAside : ByteArray := prog_7_method_4_code
def yX5_layAside : MethodName := ⟨RX5, "layAside", "()V"⟩
abbrev cX5_canComeBack : ByteArray := prog_7_method_5_code
def yX5_canComeBack : MethodName := ⟨RX5, "canComeBack", "([I)Z"⟩
abbrev cX5_takeBack : ByteArray := prog_7_method_6_code
def yX5_takeBack : MethodName := ⟨RX5, "takeBack", "()V"⟩
abbrev cX5_exchange : ByteArray := prog_7_method_7_code
def yX5_exchange : MethodName := ⟨RX5, "exchange", "()V"⟩
def RX6 : String := "SelfChange"
def TX6 : u_T := fun k => match k with
  | 0 => ("SelfChange", "cover", "LSelfChange$Cover;", true)
  | 1 => ("SelfChange", "memory", "LSelfChange$Memory;", true)
  | 2 => ("SelfChange", "routines", "[LSelfChange$Routine;", true)
  | 3 => ("SelfChange", "kept", "LSelfChange$Kept;", true)
  | 4 => ("SelfChange", "snapshots", "[[I", true)
  | 5 => ("SelfChange", "latest", "LSelfChange$Course;", true)
  | 6 => ("SelfChange", "asThingsAre", "LSelfChange$Course;", true)
  | 7 => ("SelfChange", "walkedAlone", "LSelfChange$Course;", true)
  | 8 => ("SelfChange", "trial", "LSelfChange$Member;", true)
  | 9 => ("SelfChange", "routineCount", "I", false)
  | 10 => ("SelfChange", "snapshotCount", "I", false)
  | 11 => ("SelfChange", "madeInAll", "I", false)
  | 12 => ("SelfChange", "droppedInAll", "I", false)
  | 13 => ("SelfChange", "backInAll", "I", false)
  | 14 => ("SelfChange", "byMembersInAll", "I", false)
  | _ => ("SelfChange", "walkedInAll", "I", false)
def tyX6 : Nat → FieldType := fun k => match k with
  | 0 => .object "SelfChange$Cover"
  | 1 => .object "SelfChange$Memory"
  | 2 => .array (.object "SelfChange$Routine")
  | 3 => .object "SelfChange$Kept"
  | 4 => .array (.array .int)
  | 5 => .object "SelfChange$Course"
  | 6 => .object "SelfChange$Course"
  | 7 => .object "SelfChange$Course"
  | 8 => .object "SelfChange$Member"
  | 9 => .int
  | 10 => .int
  | 11 => .int
  | 12 => .int
  | 13 => .int
  | 14 => .int
  | _ => .int
abbrev wsX60 : List Cond := u_ws RX6 TX6 16
theorem nmX6 : ∀ a, a < 16 → ∀ b, b < 16 → a ≠ b → (TX6 a).2.1 ≠ (TX6 b).2.1 := by decide +kernel
theorem tyX6_ok : ∀ k, k < 16 → parseFieldDescriptor (TX6 k).2.2.1 = some (tyX6 k) := by decide +kernel
abbrev cX6_init : ByteArray := prog_1_method_1_code
def yX6_init : MethodName := ⟨RX6, "<init>", "()V"⟩
abbrev cX6_put : ByteArray := prog_1_method_2_code
def yX6_put : MethodName := ⟨RX6, "put", "(IJI)I"⟩
abbrev cX6_write : ByteArray := prog_1_method_3_code
def yX6_write : MethodName := ⟨RX6, "write", "(II)I"⟩
abbrev cX6_read : ByteArray := prog_1_method_4_code
def yX6_read : MethodName := ⟨RX6, "read", "(I)I"⟩
abbrev cX6_routine : ByteArray := prog_1_method_5_code
def yX6_routine : MethodName := ⟨RX6, "routine", "(I)I"⟩
abbrev cX6_make : ByteArray := prog_1_method_6_code
def yX6_make : MethodName := ⟨RX6, "make", "()I"⟩
abbrev cX6_member : ByteArray := prog_1_method_7_code
def yX6_member : MethodName := ⟨RX6, "member", "(II)I"⟩
abbrev cX6_head : ByteArray := prog_1_method_8_code
def yX6_head : MethodName := ⟨RX6, "head", "(II)I"⟩
abbrev cX6_makeable : ByteArray := prog_1_method_9_code
def yX6_makeable : MethodName := ⟨RX6, "makeable", "(I)I"⟩
abbrev cX6_run : ByteArray := prog_1_method_10_code
def yX6_run : MethodName := ⟨RX6, "run", "(IIII)I"⟩
abbrev cX6_ran : ByteArray := prog_1_method_11_code
def yX6_ran : MethodName := ⟨RX6, "ran", "(I)I"⟩
abbrev cX6_alike : ByteArray := prog_1_method_12_code
def yX6_alike : MethodName := ⟨RX6, "alike", "(IIII)I"⟩
abbrev cX6_page : ByteArray := prog_1_method_13_code
def yX6_page : MethodName := ⟨RX6, "page", "(I)I"⟩
abbrev cX6_snapshot : ByteArray := prog_1_method_14_code
def yX6_snapshot : MethodName := ⟨RX6, "snapshot", "()I"⟩
abbrev cX6_restore : ByteArray := prog_1_method_15_code
def yX6_restore : MethodName := ⟨RX6, "restore", "(I)I"⟩
abbrev cX6_undo : ByteArray := prog_1_method_16_code
def yX6_undo : MethodName := ⟨RX6, "undo", "()I"⟩
abbrev cX6_share : ByteArray := prog_1_method_17_code
def yX6_share : MethodName := ⟨RX6, "share", "()I"⟩
abbrev cX6_count : ByteArray := prog_1_method_18_code
def yX6_count : MethodName := ⟨RX6, "count", "(I)I"⟩
abbrev cX6_clear : ByteArray := prog_1_method_19_code
def yX6_clear : MethodName := ⟨RX6, "clear", "()I"⟩
abbrev cX6_isNoPlace : ByteArray := prog_1_method_20_code
def yX6_isNoPlace : MethodName := ⟨RX6, "isNoPlace", "(I)Z"⟩
abbrev cX6_isNoRoutine : ByteArray := prog_1_method_21_code
def yX6_isNoRoutine : MethodName := ⟨RX6, "isNoRoutine", "(I)Z"⟩
abbrev cX6_refusalOfRun : ByteArray := prog_1_method_22_code
def yX6_refusalOfRun : MethodName := ⟨RX6, "refusalOfRun", "(II)I"⟩
abbrev cX6_beginKeeping : ByteArray := prog_1_method_23_code
def yX6_beginKeeping : MethodName := ⟨RX6, "beginKeeping", "()V"⟩
abbrev cX6_endKeeping : ByteArray := prog_1_method_24_code
def yX6_endKeeping : MethodName := ⟨RX6, "endKeeping", "()I"⟩
abbrev cX6_returnTo : ByteArray := prog_1_method_25_code
def yX6_returnTo : MethodName := ⟨RX6, "returnTo", "([I)I"⟩
abbrev cX6_layDroppedAside : ByteArray := prog_1_method_26_code
def yX6_layDroppedAside : MethodName := ⟨RX6, "layDroppedAside", "()I"⟩
abbrev cX6_bringBack : ByteArray := prog_1_method_27_code
def yX6_bringBack : MethodName := ⟨RX6, "bringBack", "()I"⟩
abbrev cX6_giveMember : ByteArray := prog_1_method_28_code
def yX6_giveMember : MethodName := ⟨RX6, "giveMember", "(I)V"⟩
abbrev cX6_countWalkedForGood : ByteArray := prog_1_method_29_code
def yX6_countWalkedForGood : MethodName := ⟨RX6, "countWalkedForGood", "()I"⟩
abbrev cX6_isKind : ByteArray := prog_1_method_30_code
def yX6_isKind : MethodName := ⟨RX6, "isKind", "(I)Z"⟩
abbrev cX6_hasOperand : ByteArray := prog_1_method_31_code
def yX6_hasOperand : MethodName := ⟨RX6, "hasOperand", "(I)Z"⟩
abbrev cX6_lengthOf : ByteArray := prog_1_method_32_code
def yX6_lengthOf : MethodName := ⟨RX6, "lengthOf", "(I)I"⟩
abbrev cX6_canGoElsewhere : ByteArray := prog_1_method_33_code
def yX6_canGoElsewhere : MethodName := ⟨RX6, "canGoElsewhere", "(I)Z"⟩
def RX7 : String := "SelfChangeModel"
def TX7 : u_T := fun k => match k with
  | 0 => ("SelfChangeModel", "thrown", "I", false)
  | 1 => ("SelfChangeModel", "memory", "[I", true)
  | 2 => ("SelfChangeModel", "routines", "I", false)
  | 3 => ("SelfChangeModel", "begins", "[I", true)
  | 4 => ("SelfChangeModel", "has", "[Z", true)
  | 5 => ("SelfChangeModel", "isHead", "[Z", true)
  | 6 => ("SelfChangeModel", "isIn", "[Z", true)
  | 7 => ("SelfChangeModel", "asMade", "[I", true)
  | 8 => ("SelfChangeModel", "drops", "[I", true)
  | 9 => ("SelfChangeModel", "lies", "[Z", true)
  | 10 => ("SelfChangeModel", "asideHead", "[Z", true)
  | 11 => ("SelfChangeModel", "asideIn", "[Z", true)
  | 12 => ("SelfChangeModel", "asideByte", "[I", true)
  | 13 => ("SelfChangeModel", "looks", "I", false)
  | 14 => ("SelfChangeModel", "madeAll", "I", false)
  | 15 => ("SelfChangeModel", "droppedAll", "I", false)
  | 16 => ("SelfChangeModel", "backAll", "I", false)
  | 17 => ("SelfChangeModel", "byMembers", "J", false)
  | 18 => ("SelfChangeModel", "walked", "J", false)
  | 19 => ("SelfChangeModel", "snapshots", "I", false)
  | 20 => ("SelfChangeModel", "snapshot", "[I", true)
  | 21 => ("SelfChangeModel", "keptMany", "I", false)
  | 22 => ("SelfChangeModel", "kept", "[I", true)
  | 23 => ("SelfChangeModel", "before", "[I", true)
  | 24 => ("SelfChangeModel", "told", "[I", true)
  | 25 => ("SelfChangeModel", "head", "[Z", true)
  | 26 => ("SelfChangeModel", "gone", "[Z", true)
  | 27 => ("SelfChangeModel", "covered", "[I", true)
  | 28 => ("SelfChangeModel", "callers", "[I", true)
  | 29 => ("SelfChangeModel", "returns", "[I", true)
  | 30 => ("SelfChangeModel", "a", "I", false)
  | 31 => ("SelfChangeModel", "b", "I", false)
  | 32 => ("SelfChangeModel", "at", "I", false)
  | 33 => ("SelfChangeModel", "in1", "I", false)
  | 34 => ("SelfChangeModel", "deep", "I", false)
  | 35 => ("SelfChangeModel", "steps", "I", false)
  | 36 => ("SelfChangeModel", "members", "I", false)
  | 37 => ("SelfChangeModel", "dropped", "I", false)
  | 38 => ("SelfChangeModel", "others", "I", false)
  | _ => ("SelfChangeModel", "most", "I", false)
def tyX7 : Nat → FieldType := fun k => match k with
  | 0 => .int
  | 1 => .array .int
  | 2 => .int
  | 3 => .array .int
  | 4 => .array .boolean
  | 5 => .array .boolean
  | 6 => .array .boolean
  | 7 => .array .int
  | 8 => .array .int
  | 9 => .array .boolean
  | 10 => .array .boolean
  | 11 => .array .boolean
  | 12 => .array .int
  | 13 => .int
  | 14 => .int
  | 15 => .int
  | 16 => .int
  | 17 => .long
  | 18 => .long
  | 19 => .int
  | 20 => .array .int
  | 21 => .int
  | 22 => .array .int
  | 23 => .array .int
  | 24 => .array .int
  | 25 => .array .boolean
  | 26 => .array .boolean
  | 27 => .array .int
  | 28 => .array .int
  | 29 => .array .int
  | 30 => .int
  | 31 => .int
  | 32 => .int
  | 33 => .int
  | 34 => .int
  | 35 => .int
  | 36 => .int
  | 37 => .int
  | 38 => .int
  | _ => .int
abbrev wsX70 : List Cond := u_ws RX7 TX7 40
theorem nmX7 : ∀ a, a < 40 → ∀ b, b < 40 → a ≠ b → (TX7 a).2.1 ≠ (TX7 b).2.1 := by decide +kernel
theorem tyX7_ok : ∀ k, k < 40 → parseFieldDescriptor (TX7 k).2.2.1 = some (tyX7 k) := by decide +kernel
abbrev cX7_init : ByteArray := prog_9_method_1_code
def yX7_init : MethodName := ⟨RX7, "<init>", "()V"⟩
abbrev cX7_thrown : ByteArray := prog_9_method_2_code
def yX7_thrown : MethodName := ⟨RX7, "thrown", "()I"⟩
abbrev cX7_in : ByteArray := prog_9_method_3_code
def yX7_in : MethodName := ⟨RX7, "in", "(III)Z"⟩
abbrev cX7_isRoutine : ByteArray := prog_9_method_4_code
def yX7_isRoutine : MethodName := ⟨RX7, "isRoutine", "(I)Z"⟩
abbrev cX7_isLooked : ByteArray := prog_9_method_5_code
def yX7_isLooked : MethodName := ⟨RX7, "isLooked", "(I)Z"⟩
abbrev cX7_drop : ByteArray := prog_9_method_6_code
def yX7_drop : MethodName := ⟨RX7, "drop", "(I)V"⟩
abbrev cX7_becomes : ByteArray := prog_9_method_7_code
def yX7_becomes : MethodName := ⟨RX7, "becomes", "(II)I"⟩
abbrev cX7_note : ByteArray := prog_9_method_8_code
def yX7_note : MethodName := ⟨RX7, "note", "()V"⟩
abbrev cX7_keep : ByteArray := prog_9_method_9_code
def yX7_keep : MethodName := ⟨RX7, "keep", "()V"⟩
abbrev cX7_put : ByteArray := prog_9_method_10_code
def yX7_put : MethodName := ⟨RX7, "put", "(IJI)I"⟩
abbrev cX7_write : ByteArray := prog_9_method_11_code
def yX7_write : MethodName := ⟨RX7, "write", "(II)I"⟩
abbrev cX7_read : ByteArray := prog_9_method_12_code
def yX7_read : MethodName := ⟨RX7, "read", "(I)I"⟩
abbrev cX7_routine : ByteArray := prog_9_method_13_code
def yX7_routine : MethodName := ⟨RX7, "routine", "(I)I"⟩
abbrev cX7_isLong : ByteArray := prog_9_method_14_code
def yX7_isLong : MethodName := ⟨RX7, "isLong", "(I)Z"⟩
abbrev cX7_behind : ByteArray := prog_9_method_15_code
def yX7_behind : MethodName := ⟨RX7, "behind", "(I)I"⟩
abbrev cX7_other : ByteArray := prog_9_method_16_code
def yX7_other : MethodName := ⟨RX7, "other", "(I)I"⟩
abbrev cX7_find : ByteArray := prog_9_method_17_code
def yX7_find : MethodName := ⟨RX7, "find", "(I)Z"⟩
abbrev cX7_make : ByteArray := prog_9_method_18_code
def yX7_make : MethodName := ⟨RX7, "make", "()I"⟩
abbrev cX7_countOf : ByteArray := prog_9_method_19_code
def yX7_countOf : MethodName := ⟨RX7, "countOf", "(IZ)I"⟩
abbrev cX7_member : ByteArray := prog_9_method_20_code
def yX7_member : MethodName := ⟨RX7, "member", "(II)I"⟩
abbrev cX7_head : ByteArray := prog_9_method_21_code
def yX7_head : MethodName := ⟨RX7, "head", "(II)I"⟩
abbrev cX7_makeable : ByteArray := prog_9_method_22_code
def yX7_makeable : MethodName := ⟨RX7, "makeable", "(I)I"⟩
abbrev cX7_changes : ByteArray := prog_9_method_23_code
def yX7_changes : MethodName := ⟨RX7, "changes", "(II)V"⟩
abbrev cX7_works : ByteArray := prog_9_method_24_code
def yX7_works : MethodName := ⟨RX7, "works", "(II)V"⟩
abbrev cX7_calls : ByteArray := prog_9_method_25_code
def yX7_calls : MethodName := ⟨RX7, "calls", "(II)I"⟩
abbrev cX7_act : ByteArray := prog_9_method_26_code
def yX7_act : MethodName := ⟨RX7, "act", "(I)I"⟩
abbrev cX7_run : ByteArray := prog_9_method_27_code
def yX7_run : MethodName := ⟨RX7, "run", "(IIII)I"⟩
abbrev cX7_ran : ByteArray := prog_9_method_28_code
def yX7_ran : MethodName := ⟨RX7, "ran", "(I)I"⟩
abbrev cX7_alike : ByteArray := prog_9_method_29_code
def yX7_alike : MethodName := ⟨RX7, "alike", "(IIII)I"⟩
abbrev cX7_page : ByteArray := prog_9_method_30_code
def yX7_page : MethodName := ⟨RX7, "page", "(I)I"⟩
abbrev cX7_snapshot : ByteArray := prog_9_method_31_code
def yX7_snapshot : MethodName := ⟨RX7, "snapshot", "()I"⟩
abbrev cX7_isAsMade : ByteArray := prog_9_method_32_code
def yX7_isAsMade : MethodName := ⟨RX7, "isAsMade", "(I)Z"⟩
abbrev cX7_returned : ByteArray := prog_9_method_33_code
def yX7_returned : MethodName := ⟨RX7, "returned", "()I"⟩
abbrev cX7_restore : ByteArray := prog_9_method_34_code
def yX7_restore : MethodName := ⟨RX7, "restore", "(I)I"⟩
abbrev cX7_undo : ByteArray := prog_9_method_35_code
def yX7_undo : MethodName := ⟨RX7, "undo", "()I"⟩
abbrev cX7_share : ByteArray := prog_9_method_36_code
def yX7_share : MethodName := ⟨RX7, "share", "()I"⟩
abbrev cX7_count : ByteArray := prog_9_method_37_code
def yX7_count : MethodName := ⟨RX7, "count", "(I)I"⟩
abbrev cX7_clear : ByteArray := prog_9_method_38_code
def yX7_clear : MethodName := ⟨RX7, "clear", "()I"⟩
def RJx00060 : String := "java/lang/ArrayIndexOutOfBoundsException"
def TJx00060 : u_T := fun k => match k with
  | 0 => ("java/lang/Throwable", "backtrace", "Ljava/lang/Object;", false)
  | 1 => ("java/lang/Throwable", "detailMessage", "Ljava/lang/String;", false)
  | 2 => ("java/lang/Throwable", "cause", "Ljava/lang/Throwable;", false)
  | 3 => ("java/lang/Throwable", "stackTrace", "[Ljava/lang/StackTraceElement;", false)
  | 4 => ("java/lang/Throwable", "depth", "I", false)
  | _ => ("java/lang/Throwable", "suppressedExceptions", "Ljava/util/List;", false)
def tyJx00060 : Nat → FieldType := fun k => match k with
  | 0 => .object "java/lang/Object"
  | 1 => .object "java/lang/String"
  | 2 => .object "java/lang/Throwable"
  | 3 => .array (.object "java/lang/StackTraceElement")
  | 4 => .int
  | _ => .object "java/util/List"
abbrev wsJx000600 : List Cond := u_ws RJx00060 TJx00060 6
theorem nmJx00060 : ∀ a, a < 6 → ∀ b, b < 6 → a ≠ b → (TJx00060 a).2.1 ≠ (TJx00060 b).2.1 := by decide +kernel
theorem tyJx00060_ok : ∀ k, k < 6 → parseFieldDescriptor (TJx00060 k).2.2.1 = some (tyJx00060 k) := by decide +kernel
abbrev cJx00060_init_a7421 : ByteArray := prog_11_method_2_code
def yJx00060_init_a7421 : MethodName := ⟨RJx00060, "<init>", "(Ljava/lang/String;)V"⟩
def RJ6 : String := "java/lang/Integer"
def TJ6 : u_T := fun k => match k with
  | _ => ("", "", "", false)
def tyJ6 : Nat → FieldType := fun k => match k with
  | _ => .int
abbrev wsJ60 : List Cond := u_ws RJ6 TJ6 0
theorem nmJ6 : ∀ a, a < 0 → ∀ b, b < 0 → a ≠ b → (TJ6 a).2.1 ≠ (TJ6 b).2.1 := by decide +kernel
theorem tyJ6_ok : ∀ k, k < 0 → parseFieldDescriptor (TJ6 k).2.2.1 = some (tyJ6 k) := by decide +kernel
abbrev cJ6_bitCount_0f7a4 : ByteArray := prog_14_method_49_code
def yJ6_bitCount_0f7a4 : MethodName := ⟨RJ6, "bitCount", "(I)I"⟩
def RJ9 : String := "java/lang/Math"
def TJ9 : u_T := fun k => match k with
  | _ => ("", "", "", false)
def tyJ9 : Nat → FieldType := fun k => match k with
  | _ => .int
abbrev wsJ90 : List Cond := u_ws RJ9 TJ9 0
theorem nmJ9 : ∀ a, a < 0 → ∀ b, b < 0 → a ≠ b → (TJ9 a).2.1 ≠ (TJ9 b).2.1 := by decide +kernel
theorem tyJ9_ok : ∀ k, k < 0 → parseFieldDescriptor (TJ9 k).2.2.1 = some (tyJ9 k) := by decide +kernel
abbrev cJ9_max_7cf53 : ByteArray := prog_15_method_65_code
def yJ9_max_7cf53 : MethodName := ⟨RJ9, "max", "(II)I"⟩
def RJx5d777 : String := "java/lang/NullPointerException"
def TJx5d777 : u_T := fun k => match k with
  | 0 => ("java/lang/Throwable", "backtrace", "Ljava/lang/Object;", false)
  | 1 => ("java/lang/Throwable", "detailMessage", "Ljava/lang/String;", false)
  | 2 => ("java/lang/Throwable", "cause", "Ljava/lang/Throwable;", false)
  | 3 => ("java/lang/Throwable", "stackTrace", "[Ljava/lang/StackTraceElement;", false)
  | 4 => ("java/lang/Throwable", "depth", "I", false)
  | 5 => ("java/lang/Throwable", "suppressedExceptions", "Ljava/util/List;", false)
  | 6 => ("java/lang/NullPointerException", "extendedMessageState", "I", false)
  | _ => ("java/lang/NullPointerException", "extendedMessage", "Ljava/lang/String;", false)
def tyJx5d777 : Nat → FieldType := fun k => match k with
  | 0 => .object "java/lang/Object"
  | 1 => .object "java/lang/String"
  | 2 => .object "java/lang/Throwable"
  | 3 => .array (.object "java/lang/StackTraceElement")
  | 4 => .int
  | 5 => .object "java/util/List"
  | 6 => .int
  | _ => .object "java/lang/String"
abbrev wsJx5d7770 : List Cond := u_ws RJx5d777 TJx5d777 8
theorem nmJx5d777 : ∀ a, a < 8 → ∀ b, b < 8 → a ≠ b → (TJx5d777 a).2.1 ≠ (TJx5d777 b).2.1 := by decide +kernel
theorem tyJx5d777_ok : ∀ k, k < 8 → parseFieldDescriptor (TJx5d777 k).2.2.1 = some (tyJx5d777 k) := by decide +kernel
abbrev cJx5d777_init_da8c8 : ByteArray := prog_16_method_1_code
def yJx5d777_init_da8c8 : MethodName := ⟨RJx5d777, "<init>", "()V"⟩
abbrev cJx5d777_init_a7421 : ByteArray := prog_16_method_2_code
def yJx5d777_init_a7421 : MethodName := ⟨RJx5d777, "<init>", "(Ljava/lang/String;)V"⟩
abbrev cJx5d777_fillInStackTrace_cddbd : ByteArray := prog_16_method_3_code
def yJx5d777_fillInStackTrace_cddbd : MethodName := ⟨RJx5d777, "fillInStackTrace", "()Ljava/lang/Throwable;"⟩
def RJ0 : String := "java/lang/String"
def TJ0 : u_T := fun k => match k with
  | 0 => ("java/lang/String", "value", "[B", true)
  | _ => ("java/lang/String", "coder", "B", true)
def tyJ0 : Nat → FieldType := fun k => match k with
  | 0 => .array .byte
  | _ => .byte
abbrev wsJ00 : List Cond := u_ws RJ0 TJ0 2
theorem nmJ0 : ∀ a, a < 2 → ∀ b, b < 2 → a ≠ b → (TJ0 a).2.1 ≠ (TJ0 b).2.1 := by decide +kernel
theorem tyJ0_ok : ∀ k, k < 2 → parseFieldDescriptor (TJ0 k).2.2.1 = some (tyJ0 k) := by decide +kernel
def RJ10 : String := "java/lang/System"
def TJ10 : u_T := fun k => match k with
  | _ => ("", "", "", false)
def tyJ10 : Nat → FieldType := fun k => match k with
  | _ => .int
abbrev wsJ100 : List Cond := u_ws RJ10 TJ10 0
theorem nmJ10 : ∀ a, a < 0 → ∀ b, b < 0 → a ≠ b → (TJ10 a).2.1 ≠ (TJ10 b).2.1 := by decide +kernel
theorem tyJ10_ok : ∀ k, k < 0 → parseFieldDescriptor (TJ10 k).2.2.1 = some (tyJ10 k) := by decide +kernel
def RJ7 : String := "java/util/Arrays"
def TJ7 : u_T := fun k => match k with
  | _ => ("", "", "", false)
def tyJ7 : Nat → FieldType := fun k => match k with
  | _ => .int
abbrev wsJ70 : List Cond := u_ws RJ7 TJ7 0
theorem nmJ7 : ∀ a, a < 0 → ∀ b, b < 0 → a ≠ b → (TJ7 a).2.1 ≠ (TJ7 b).2.1 := by decide +kernel
theorem tyJ7_ok : ∀ k, k < 0 → parseFieldDescriptor (TJ7 k).2.2.1 = some (tyJ7 k) := by decide +kernel
abbrev cJ7_fill_53178 : ByteArray := prog_21_method_103_code
def yJ7_fill_53178 : MethodName := ⟨RJ7, "fill", "([II)V"⟩
def RL : String := "SelfChangeLaw"
abbrev cL_read : ByteArray := method_3_code
def yL_read : MethodName := ⟨RL, "read", "(LSelfChange;I[J)I"⟩
abbrev cL_head : ByteArray := method_4_code
def yL_head : MethodName := ⟨RL, "head", "(LSelfChange;II[J)I"⟩
abbrev cL_share : ByteArray := method_5_code
def yL_share : MethodName := ⟨RL, "share", "(LSelfChange;[J)I"⟩
abbrev cL_law : ByteArray := code
def yL_law : MethodName := ⟨RL, "law", "([I)Z"⟩
