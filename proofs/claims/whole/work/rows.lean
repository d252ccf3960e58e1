section
-- ===== PART A: goes FIRST, ahead of the names: the tables' words, and 'selects' of the private methods out of them =====
/-- a private method of a class that the tables say can be made, by its rows of tables_1 -/
def lw_okq (q : MethodName × Nat) : Prop := (q.1.cls ≠ "java/lang/invoke/MethodHandle" ∧ q.1.cls ≠ "java/lang/invoke/VarHandle") ∧ Cond.instantiable q.1.cls q.2 ∈ tables_1 ∧ Cond.privateMethod q.1 ∈ tables_1 ∧ Cond.instanceMethod q.1 ∈ tables_1
theorem lw_p0 : lw_okq (⟨"SelfChange", "beginKeeping", "()V"⟩, 16) := ⟨⟨by decide +kernel, by decide +kernel⟩, List.mem_of_getElem? (i := 22) (by decide +kernel), List.mem_of_getElem? (i := 278) (by decide +kernel), List.mem_of_getElem? (i := 279) (by decide +kernel)⟩
theorem lw_p1 : lw_okq (⟨"SelfChange", "endKeeping", "()I"⟩, 16) := ⟨⟨by decide +kernel, by decide +kernel⟩, List.mem_of_getElem? (i := 22) (by decide +kernel), List.mem_of_getElem? (i := 297) (by decide +kernel), List.mem_of_getElem? (i := 298) (by decide +kernel)⟩
theorem lw_p2 : lw_okq (⟨"SelfChange", "layDroppedAside", "()I"⟩, 16) := ⟨⟨by decide +kernel, by decide +kernel⟩, List.mem_of_getElem? (i := 22) (by decide +kernel), List.mem_of_getElem? (i := 305) (by decide +kernel), List.mem_of_getElem? (i := 306) (by decide +kernel)⟩
theorem lw_p3 : lw_okq (⟨"SelfChange$Routine", "exchange", "()V"⟩, 5) := ⟨⟨by decide +kernel, by decide +kernel⟩, List.mem_of_getElem? (i := 127) (by decide +kernel), List.mem_of_getElem? (i := 327) (by decide +kernel), List.mem_of_getElem? (i := 328) (by decide +kernel)⟩
theorem lw_p4 : lw_okq (⟨"SelfChange$Member", "addHead", "(I)Z"⟩, 4) := ⟨⟨by decide +kernel, by decide +kernel⟩, List.mem_of_getElem? (i := 102) (by decide +kernel), List.mem_of_getElem? (i := 359) (by decide +kernel), List.mem_of_getElem? (i := 360) (by decide +kernel)⟩
theorem lw_p5 : lw_okq (⟨"SelfChange$Member", "addHeadsBehind", "([II)Z"⟩, 4) := ⟨⟨by decide +kernel, by decide +kernel⟩, List.mem_of_getElem? (i := 102) (by decide +kernel), List.mem_of_getElem? (i := 367) (by decide +kernel), List.mem_of_getElem? (i := 368) (by decide +kernel)⟩
theorem lw_p6 : lw_okq (⟨"SelfChange$Member", "sortHeads", "()V"⟩, 4) := ⟨⟨by decide +kernel, by decide +kernel⟩, List.mem_of_getElem? (i := 102) (by decide +kernel), List.mem_of_getElem? (i := 378) (by decide +kernel), List.mem_of_getElem? (i := 379) (by decide +kernel)⟩
theorem lw_p7 : lw_okq (⟨"SelfChange$Member", "decode", "([I)V"⟩, 4) := ⟨⟨by decide +kernel, by decide +kernel⟩, List.mem_of_getElem? (i := 102) (by decide +kernel), List.mem_of_getElem? (i := 382) (by decide +kernel), List.mem_of_getElem? (i := 383) (by decide +kernel)⟩
theorem lw_p8 : lw_okq (⟨"SelfChange$Member", "hasActsThatMeet", "()Z"⟩, 4) := ⟨⟨by decide +kernel, by decide +kernel⟩, List.mem_of_getElem? (i := 102) (by decide +kernel), List.mem_of_getElem? (i := 386) (by decide +kernel), List.mem_of_getElem? (i := 387) (by decide +kernel)⟩
theorem lw_p9 : lw_okq (⟨"SelfChange", "giveMember", "(I)V"⟩, 16) := ⟨⟨by decide +kernel, by decide +kernel⟩, List.mem_of_getElem? (i := 22) (by decide +kernel), List.mem_of_getElem? (i := 391) (by decide +kernel), List.mem_of_getElem? (i := 392) (by decide +kernel)⟩
theorem lw_p10 : lw_okq (⟨"SelfChange", "isNoRoutine", "(I)Z"⟩, 16) := ⟨⟨by decide +kernel, by decide +kernel⟩, List.mem_of_getElem? (i := 22) (by decide +kernel), List.mem_of_getElem? (i := 399) (by decide +kernel), List.mem_of_getElem? (i := 400) (by decide +kernel)⟩
theorem lw_p11 : lw_okq (⟨"SelfChange", "refusalOfRun", "(II)I"⟩, 16) := ⟨⟨by decide +kernel, by decide +kernel⟩, List.mem_of_getElem? (i := 22) (by decide +kernel), List.mem_of_getElem? (i := 415) (by decide +kernel), List.mem_of_getElem? (i := 416) (by decide +kernel)⟩
theorem lw_p12 : lw_okq (⟨"SelfChange$Course", "enter", "(II)V"⟩, 16) := ⟨⟨by decide +kernel, by decide +kernel⟩, List.mem_of_getElem? (i := 157) (by decide +kernel), List.mem_of_getElem? (i := 427) (by decide +kernel), List.mem_of_getElem? (i := 428) (by decide +kernel)⟩
theorem lw_p13 : lw_okq (⟨"SelfChange$Course", "step", "(I)V"⟩, 16) := ⟨⟨by decide +kernel, by decide +kernel⟩, List.mem_of_getElem? (i := 157) (by decide +kernel), List.mem_of_getElem? (i := 438) (by decide +kernel), List.mem_of_getElem? (i := 439) (by decide +kernel)⟩
theorem lw_p14 : lw_okq (⟨"SelfChange$Course", "fetchFromMember", "()Z"⟩, 16) := ⟨⟨by decide +kernel, by decide +kernel⟩, List.mem_of_getElem? (i := 157) (by decide +kernel), List.mem_of_getElem? (i := 442) (by decide +kernel), List.mem_of_getElem? (i := 443) (by decide +kernel)⟩
theorem lw_p15 : lw_okq (⟨"SelfChange$Course", "leave", "()V"⟩, 16) := ⟨⟨by decide +kernel, by decide +kernel⟩, List.mem_of_getElem? (i := 157) (by decide +kernel), List.mem_of_getElem? (i := 450) (by decide +kernel), List.mem_of_getElem? (i := 451) (by decide +kernel)⟩
def lw_privs_1 : List (MethodName × Nat) := [(⟨"SelfChange", "beginKeeping", "()V"⟩, 16), (⟨"SelfChange", "endKeeping", "()I"⟩, 16), (⟨"SelfChange", "layDroppedAside", "()I"⟩, 16), (⟨"SelfChange$Routine", "exchange", "()V"⟩, 5), (⟨"SelfChange$Member", "addHead", "(I)Z"⟩, 4), (⟨"SelfChange$Member", "addHeadsBehind", "([II)Z"⟩, 4), (⟨"SelfChange$Member", "sortHeads", "()V"⟩, 4), (⟨"SelfChange$Member", "decode", "([I)V"⟩, 4), (⟨"SelfChange$Member", "hasActsThatMeet", "()Z"⟩, 4), (⟨"SelfChange", "giveMember", "(I)V"⟩, 16), (⟨"SelfChange", "isNoRoutine", "(I)Z"⟩, 16), (⟨"SelfChange", "refusalOfRun", "(II)I"⟩, 16), (⟨"SelfChange$Course", "enter", "(II)V"⟩, 16), (⟨"SelfChange$Course", "step", "(I)V"⟩, 16), (⟨"SelfChange$Course", "fetchFromMember", "()Z"⟩, 16), (⟨"SelfChange$Course", "leave", "()V"⟩, 16)]
theorem lw_r1 : ∀ q ∈ lw_privs_1, lw_okq q := List.forall_mem_cons.mpr ⟨lw_p0, List.forall_mem_cons.mpr ⟨lw_p1, List.forall_mem_cons.mpr ⟨lw_p2, List.forall_mem_cons.mpr ⟨lw_p3, List.forall_mem_cons.mpr ⟨lw_p4, List.forall_mem_cons.mpr ⟨lw_p5, List.forall_mem_cons.mpr ⟨lw_p6, List.forall_mem_cons.mpr ⟨lw_p7, List.forall_mem_cons.mpr ⟨lw_p8, List.forall_mem_cons.mpr ⟨lw_p9, List.forall_mem_cons.mpr ⟨lw_p10, List.forall_mem_cons.mpr ⟨lw_p11, List.forall_mem_cons.mpr ⟨lw_p12, List.forall_mem_cons.mpr ⟨lw_p13, List.forall_mem_cons.mpr ⟨lw_p14, List.forall_mem_cons.mpr ⟨lw_p15, fun _ h => absurd h List.not_mem_nil⟩⟩⟩⟩⟩⟩⟩⟩⟩⟩⟩⟩⟩⟩⟩⟩
theorem lw_p16 : lw_okq (⟨"SelfChange$Course", "enterCalled", "(II)V"⟩, 16) := ⟨⟨by decide +kernel, by decide +kernel⟩, List.mem_of_getElem? (i := 157) (by decide +kernel), List.mem_of_getElem? (i := 454) (by decide +kernel), List.mem_of_getElem? (i := 455) (by decide +kernel)⟩
theorem lw_p17 : lw_okq (⟨"SelfChange$Course", "goesElsewhere", "()Z"⟩, 16) := ⟨⟨by decide +kernel, by decide +kernel⟩, List.mem_of_getElem? (i := 157) (by decide +kernel), List.mem_of_getElem? (i := 459) (by decide +kernel), List.mem_of_getElem? (i := 460) (by decide +kernel)⟩
theorem lw_p18 : lw_okq (⟨"SelfChange$Course", "doPlainAct", "()V"⟩, 16) := ⟨⟨by decide +kernel, by decide +kernel⟩, List.mem_of_getElem? (i := 157) (by decide +kernel), List.mem_of_getElem? (i := 463) (by decide +kernel), List.mem_of_getElem? (i := 464) (by decide +kernel)⟩
theorem lw_p19 : lw_okq (⟨"SelfChange$Course", "swap", "()V"⟩, 16) := ⟨⟨by decide +kernel, by decide +kernel⟩, List.mem_of_getElem? (i := 157) (by decide +kernel), List.mem_of_getElem? (i := 467) (by decide +kernel), List.mem_of_getElem? (i := 468) (by decide +kernel)⟩
theorem lw_p20 : lw_okq (⟨"SelfChange", "returnTo", "([I)I"⟩, 16) := ⟨⟨by decide +kernel, by decide +kernel⟩, List.mem_of_getElem? (i := 22) (by decide +kernel), List.mem_of_getElem? (i := 520) (by decide +kernel), List.mem_of_getElem? (i := 521) (by decide +kernel)⟩
theorem lw_p21 : lw_okq (⟨"SelfChange", "bringBack", "()I"⟩, 16) := ⟨⟨by decide +kernel, by decide +kernel⟩, List.mem_of_getElem? (i := 22) (by decide +kernel), List.mem_of_getElem? (i := 524) (by decide +kernel), List.mem_of_getElem? (i := 525) (by decide +kernel)⟩
theorem lw_p22 : lw_okq (⟨"SelfChange", "countWalkedForGood", "()I"⟩, 16) := ⟨⟨by decide +kernel, by decide +kernel⟩, List.mem_of_getElem? (i := 22) (by decide +kernel), List.mem_of_getElem? (i := 553) (by decide +kernel), List.mem_of_getElem? (i := 554) (by decide +kernel)⟩
theorem lw_p23 : lw_okq (⟨"java/lang/NullPointerException", "getExtendedNPEMessage", "()Ljava/lang/String;"⟩, 8) := ⟨⟨by decide +kernel, by decide +kernel⟩, List.mem_of_getElem? (i := 612) (by decide +kernel), List.mem_of_getElem? (i := 610) (by decide +kernel), List.mem_of_getElem? (i := 611) (by decide +kernel)⟩
theorem lw_p24 : lw_okq (⟨"java/lang/Throwable", "fillInStackTrace", "(I)Ljava/lang/Throwable;"⟩, 6) := ⟨⟨by decide +kernel, by decide +kernel⟩, List.mem_of_getElem? (i := 621) (by decide +kernel), List.mem_of_getElem? (i := 619) (by decide +kernel), List.mem_of_getElem? (i := 620) (by decide +kernel)⟩
theorem lw_p25 : lw_okq (⟨"SelfChangeModel", "note", "()V"⟩, 40) := ⟨⟨by decide +kernel, by decide +kernel⟩, List.mem_of_getElem? (i := 738) (by decide +kernel), List.mem_of_getElem? (i := 877) (by decide +kernel), List.mem_of_getElem? (i := 878) (by decide +kernel)⟩
theorem lw_p26 : lw_okq (⟨"SelfChangeModel", "becomes", "(II)I"⟩, 40) := ⟨⟨by decide +kernel, by decide +kernel⟩, List.mem_of_getElem? (i := 738) (by decide +kernel), List.mem_of_getElem? (i := 882) (by decide +kernel), List.mem_of_getElem? (i := 883) (by decide +kernel)⟩
theorem lw_p27 : lw_okq (⟨"SelfChangeModel", "isLooked", "(I)Z"⟩, 40) := ⟨⟨by decide +kernel, by decide +kernel⟩, List.mem_of_getElem? (i := 738) (by decide +kernel), List.mem_of_getElem? (i := 886) (by decide +kernel), List.mem_of_getElem? (i := 887) (by decide +kernel)⟩
theorem lw_p28 : lw_okq (⟨"SelfChangeModel", "drop", "(I)V"⟩, 40) := ⟨⟨by decide +kernel, by decide +kernel⟩, List.mem_of_getElem? (i := 738) (by decide +kernel), List.mem_of_getElem? (i := 890) (by decide +kernel), List.mem_of_getElem? (i := 891) (by decide +kernel)⟩
theorem lw_p29 : lw_okq (⟨"SelfChangeModel", "keep", "()V"⟩, 40) := ⟨⟨by decide +kernel, by decide +kernel⟩, List.mem_of_getElem? (i := 738) (by decide +kernel), List.mem_of_getElem? (i := 894) (by decide +kernel), List.mem_of_getElem? (i := 895) (by decide +kernel)⟩
theorem lw_p30 : lw_okq (⟨"SelfChangeModel", "find", "(I)Z"⟩, 40) := ⟨⟨by decide +kernel, by decide +kernel⟩, List.mem_of_getElem? (i := 738) (by decide +kernel), List.mem_of_getElem? (i := 914) (by decide +kernel), List.mem_of_getElem? (i := 915) (by decide +kernel)⟩
theorem lw_p31 : lw_okq (⟨"SelfChangeModel", "behind", "(I)I"⟩, 40) := ⟨⟨by decide +kernel, by decide +kernel⟩, List.mem_of_getElem? (i := 738) (by decide +kernel), List.mem_of_getElem? (i := 921) (by decide +kernel), List.mem_of_getElem? (i := 922) (by decide +kernel)⟩
def lw_privs_2 : List (MethodName × Nat) := [(⟨"SelfChange$Course", "enterCalled", "(II)V"⟩, 16), (⟨"SelfChange$Course", "goesElsewhere", "()Z"⟩, 16), (⟨"SelfChange$Course", "doPlainAct", "()V"⟩, 16), (⟨"SelfChange$Course", "swap", "()V"⟩, 16), (⟨"SelfChange", "returnTo", "([I)I"⟩, 16), (⟨"SelfChange", "bringBack", "()I"⟩, 16), (⟨"SelfChange", "countWalkedForGood", "()I"⟩, 16), (⟨"java/lang/NullPointerException", "getExtendedNPEMessage", "()Ljava/lang/String;"⟩, 8), (⟨"java/lang/Throwable", "fillInStackTrace", "(I)Ljava/lang/Throwable;"⟩, 6), (⟨"SelfChangeModel", "note", "()V"⟩, 40), (⟨"SelfChangeModel", "becomes", "(II)I"⟩, 40), (⟨"SelfChangeModel", "isLooked", "(I)Z"⟩, 40), (⟨"SelfChangeModel", "drop", "(I)V"⟩, 40), (⟨"SelfChangeModel", "keep", "()V"⟩, 40), (⟨"SelfChangeModel", "find", "(I)Z"⟩, 40), (⟨"SelfChangeModel", "behind", "(I)I"⟩, 40)]
theorem lw_r2 : ∀ q ∈ lw_privs_2, lw_okq q := List.forall_mem_cons.mpr ⟨lw_p16, List.forall_mem_cons.mpr ⟨lw_p17, List.forall_mem_cons.mpr ⟨lw_p18, List.forall_mem_cons.mpr ⟨lw_p19, List.forall_mem_cons.mpr ⟨lw_p20, List.forall_mem_cons.mpr ⟨lw_p21, List.forall_mem_cons.mpr ⟨lw_p22, List.forall_mem_cons.mpr ⟨lw_p23, List.forall_mem_cons.mpr ⟨lw_p24, List.forall_mem_cons.mpr ⟨lw_p25, List.forall_mem_cons.mpr ⟨lw_p26, List.forall_mem_cons.mpr ⟨lw_p27, List.forall_mem_cons.mpr ⟨lw_p28, List.forall_mem_cons.mpr ⟨lw_p29, List.forall_mem_cons.mpr ⟨lw_p30, List.forall_mem_cons.mpr ⟨lw_p31, fun _ h => absurd h List.not_mem_nil⟩⟩⟩⟩⟩⟩⟩⟩⟩⟩⟩⟩⟩⟩⟩⟩
theorem lw_p32 : lw_okq (⟨"SelfChangeModel", "other", "(I)I"⟩, 40) := ⟨⟨by decide +kernel, by decide +kernel⟩, List.mem_of_getElem? (i := 738) (by decide +kernel), List.mem_of_getElem? (i := 925) (by decide +kernel), List.mem_of_getElem? (i := 926) (by decide +kernel)⟩
theorem lw_p33 : lw_okq (⟨"SelfChangeModel", "isRoutine", "(I)Z"⟩, 40) := ⟨⟨by decide +kernel, by decide +kernel⟩, List.mem_of_getElem? (i := 738) (by decide +kernel), List.mem_of_getElem? (i := 933) (by decide +kernel), List.mem_of_getElem? (i := 934) (by decide +kernel)⟩
theorem lw_p34 : lw_okq (⟨"SelfChangeModel", "countOf", "(IZ)I"⟩, 40) := ⟨⟨by decide +kernel, by decide +kernel⟩, List.mem_of_getElem? (i := 738) (by decide +kernel), List.mem_of_getElem? (i := 937) (by decide +kernel), List.mem_of_getElem? (i := 938) (by decide +kernel)⟩
theorem lw_p35 : lw_okq (⟨"SelfChangeModel", "act", "(I)I"⟩, 40) := ⟨⟨by decide +kernel, by decide +kernel⟩, List.mem_of_getElem? (i := 738) (by decide +kernel), List.mem_of_getElem? (i := 953) (by decide +kernel), List.mem_of_getElem? (i := 954) (by decide +kernel)⟩
theorem lw_p36 : lw_okq (⟨"SelfChangeModel", "calls", "(II)I"⟩, 40) := ⟨⟨by decide +kernel, by decide +kernel⟩, List.mem_of_getElem? (i := 738) (by decide +kernel), List.mem_of_getElem? (i := 957) (by decide +kernel), List.mem_of_getElem? (i := 958) (by decide +kernel)⟩
theorem lw_p37 : lw_okq (⟨"SelfChangeModel", "works", "(II)V"⟩, 40) := ⟨⟨by decide +kernel, by decide +kernel⟩, List.mem_of_getElem? (i := 738) (by decide +kernel), List.mem_of_getElem? (i := 961) (by decide +kernel), List.mem_of_getElem? (i := 962) (by decide +kernel)⟩
theorem lw_p38 : lw_okq (⟨"SelfChangeModel", "changes", "(II)V"⟩, 40) := ⟨⟨by decide +kernel, by decide +kernel⟩, List.mem_of_getElem? (i := 738) (by decide +kernel), List.mem_of_getElem? (i := 965) (by decide +kernel), List.mem_of_getElem? (i := 966) (by decide +kernel)⟩
theorem lw_p39 : lw_okq (⟨"SelfChangeModel", "returned", "()I"⟩, 40) := ⟨⟨by decide +kernel, by decide +kernel⟩, List.mem_of_getElem? (i := 738) (by decide +kernel), List.mem_of_getElem? (i := 990) (by decide +kernel), List.mem_of_getElem? (i := 991) (by decide +kernel)⟩
theorem lw_p40 : lw_okq (⟨"SelfChangeModel", "isAsMade", "(I)Z"⟩, 40) := ⟨⟨by decide +kernel, by decide +kernel⟩, List.mem_of_getElem? (i := 738) (by decide +kernel), List.mem_of_getElem? (i := 994) (by decide +kernel), List.mem_of_getElem? (i := 995) (by decide +kernel)⟩
def lw_privs_3 : List (MethodName × Nat) := [(⟨"SelfChangeModel", "other", "(I)I"⟩, 40), (⟨"SelfChangeModel", "isRoutine", "(I)Z"⟩, 40), (⟨"SelfChangeModel", "countOf", "(IZ)I"⟩, 40), (⟨"SelfChangeModel", "act", "(I)I"⟩, 40), (⟨"SelfChangeModel", "calls", "(II)I"⟩, 40), (⟨"SelfChangeModel", "works", "(II)V"⟩, 40), (⟨"SelfChangeModel", "changes", "(II)V"⟩, 40), (⟨"SelfChangeModel", "returned", "()I"⟩, 40), (⟨"SelfChangeModel", "isAsMade", "(I)Z"⟩, 40)]
theorem lw_r3 : ∀ q ∈ lw_privs_3, lw_okq q := List.forall_mem_cons.mpr ⟨lw_p32, List.forall_mem_cons.mpr ⟨lw_p33, List.forall_mem_cons.mpr ⟨lw_p34, List.forall_mem_cons.mpr ⟨lw_p35, List.forall_mem_cons.mpr ⟨lw_p36, List.forall_mem_cons.mpr ⟨lw_p37, List.forall_mem_cons.mpr ⟨lw_p38, List.forall_mem_cons.mpr ⟨lw_p39, List.forall_mem_cons.mpr ⟨lw_p40, fun _ h => absurd h List.not_mem_nil⟩⟩⟩⟩⟩⟩⟩⟩⟩
def lw_privs : List (MethodName × Nat) := lw_privs_1 ++ (lw_privs_2 ++ (lw_privs_3))
def lw_tbl : List Cond := k2_sels lw_privs ++ tables_1
theorem lw_privs_ok : ∀ q ∈ lw_privs, lw_okq q := by
  show ∀ q ∈ lw_privs_1 ++ (lw_privs_2 ++ (lw_privs_3)), lw_okq q
  exact List.forall_mem_append.mpr ⟨lw_r1, List.forall_mem_append.mpr ⟨lw_r2, lw_r3⟩⟩
def RX0 : String := "SelfChange$Course"
def TX0 : u_T := fun k => match k with
  | 0 => ("SelfChange$Course", "memory", "LSelfChange$Memory;", true)
  | 1 => ("SelfChange$Course", "routines", "[LSelfChange$Routine;", true)
  | 2 => ("SelfChange$Course", "within", "[I", true)
  | 3 => ("SelfChange$Course", "behindCall", "[I", true)
  | 4 => ("SelfChange$Course", "depth", "I", false)
  | 5 => ("SelfChange$Course", "deepest", "I", false)
  | 6 => ("SelfChange$Course", "a", "I", false)
  | 7 => ("SelfChange$Course", "b", "I", false)
  | 8 => ("SelfChange$Course", "place", "I", false)
  | 9 => ("SelfChange$Course", "kind", "I", false)
  | 10 => ("SelfChange$Course", "operand", "I", false)
  | 11 => ("SelfChange$Course", "byMembers", "I", false)
  | 12 => ("SelfChange$Course", "walked", "I", false)
  | 13 => ("SelfChange$Course", "dropped", "I", false)
  | 14 => ("SelfChange$Course", "changes", "I", false)
  | _ => ("SelfChange$Course", "answer", "I", false)
def tyX0 : Nat → FieldType := fun k => match k with
  | 0 => .object "SelfChange$Memory"
  | 1 => .array (.object "SelfChange$Routine")
  | 2 => .array .int
  | 3 => .array .int
  | 4 => .int
  | 5 => .int
  | 6 => .int
  | 7 => .int
  | 8 => .int
  | 9 => .int
  | 10 => .int
  | 11 => .int
  | 12 => .int
  | 13 => .int
  | 14 => .int
  | _ => .int
abbrev wsX00 : List Cond := u_ws RX0 TX0 16
theorem nmX0 : ∀ a, a < 16 → ∀ b, b < 16 → a ≠ b → (TX0 a).2.1 ≠ (TX0 b).2.1 := by decide +kernel
theorem tyX0_ok : ∀ k, k < 16 → parseFieldDescriptor (TX0 k).2.2.1 = some (tyX0 k) := by decide +kernel
abbrev cX0_init : ByteArray := prog_2_method_1_code
def yX0_init : MethodName := ⟨RX0, "<init>", "(LSelfChange$Memory;[LSelfChange$Routine;)V"⟩
abbrev cX0_empty : ByteArray := prog_2_method_2_code
def yX0_empty : MethodName := ⟨RX0, "empty", "()V"⟩
abbrev cX0_begin : ByteArray := prog_2_method_3_code
def yX0_begin : MethodName := ⟨RX0, "begin", "(III)V"⟩
abbrev cX0_steps : ByteArray := prog_2_method_4_code
def yX0_steps : MethodName := ⟨RX0, "steps", "()I"⟩
abbrev cX0_follow : ByteArray := prog_2_method_5_code
def yX0_follow : MethodName := ⟨RX0, "follow", "(II)V"⟩
abbrev cX0_cameToTheSameAs : ByteArray := prog_2_method_6_code
def yX0_cameToTheSameAs : MethodName := ⟨RX0, "cameToTheSameAs", "(LSelfChange$Course;)Z"⟩
abbrev cX0_enter : ByteArray := prog_2_method_7_code
def yX0_enter : MethodName := ⟨RX0, "enter", "(II)V"⟩
abbrev cX0_step : ByteArray := prog_2_method_8_code
def yX0_step : MethodName := ⟨RX0, "step", "(I)V"⟩
abbrev cX0_fetchFromMember : ByteArray := prog_2_method_9_code
def yX0_fetchFromMember : MethodName := ⟨RX0, "fetchFromMember", "()Z"⟩
abbrev cX0_leave : ByteArray := prog_2_method_10_code
def yX0_leave : MethodName := ⟨RX0, "leave", "()V"⟩
abbrev cX0_enterCalled : ByteArray := prog_2_method_11_code
def yX0_enterCalled : MethodName := ⟨RX0, "enterCalled", "(II)V"⟩
abbrev cX0_goesElsewhere : ByteArray := prog_2_method_12_code
def yX0_goesElsewhere : MethodName := ⟨RX0, "goesElsewhere", "()Z"⟩
abbrev cX0_swap : ByteArray := prog_2_method_13_code
def yX0_swap : MethodName := ⟨RX0, "swap", "()V"⟩
abbrev cX0_doPlainAct : ByteArray := prog_2_method_14_code
def yX0_doPlainAct : MethodName := ⟨RX0, "doPlainAct", "()V"⟩
def RX1 : String := "SelfChange$Cover"
def TX1 : u_T := fun k => match k with
  | 0 => ("SelfChange$Cover", "places", "[I", true)
  | _ => ("SelfChange$Cover", "pages", "[I", true)
def tyX1 : Nat → FieldType := fun k => match k with
  | 0 => .array .int
  | _ => .array .int
abbrev wsX10 : List Cond := u_ws RX1 TX1 2
theorem nmX1 : ∀ a, a < 2 → ∀ b, b < 2 → a ≠ b → (TX1 a).2.1 ≠ (TX1 b).2.1 := by decide +kernel
theorem tyX1_ok : ∀ k, k < 2 → parseFieldDescriptor (TX1 k).2.2.1 = some (tyX1 k) := by decide +kernel
abbrev cX1_init : ByteArray := prog_3_method_1_code
def yX1_init : MethodName := ⟨RX1, "<init>", "()V"⟩
abbrev cX1_mark : ByteArray := prog_3_method_2_code
def yX1_mark : MethodName := ⟨RX1, "mark", "(ILSelfChange$Member;Z)V"⟩
abbrev cX1_empty : ByteArray := prog_3_method_3_code
def yX1_empty : MethodName := ⟨RX1, "empty", "()V"⟩
def RX2 : String := "SelfChange$Kept"
def TX2 : u_T := fun k => match k with
  | 0 => ("SelfChange$Kept", "rows", "[[I", true)
  | 1 => ("SelfChange$Kept", "first", "I", false)
  | _ => ("SelfChange$Kept", "size", "I", false)
def tyX2 : Nat → FieldType := fun k => match k with
  | 0 => .array (.array .int)
  | 1 => .int
  | _ => .int
abbrev wsX20 : List Cond := u_ws RX2 TX2 3
theorem nmX2 : ∀ a, a < 3 → ∀ b, b < 3 → a ≠ b → (TX2 a).2.1 ≠ (TX2 b).2.1 := by decide +kernel
theorem tyX2_ok : ∀ k, k < 3 → parseFieldDescriptor (TX2 k).2.2.1 = some (tyX2 k) := by decide +kernel
abbrev cX2_init : ByteArray := prog_4_method_1_code
def yX2_init : MethodName := ⟨RX2, "<init>", "()V"⟩
abbrev cX2_note : ByteArray := prog_4_method_2_code
def yX2_note : MethodName := ⟨RX2, "note", "([I)V"⟩
abbrev cX2_keepNoted : ByteArray := prog_4_method_3_code
def yX2_keepNoted : MethodName := ⟨RX2, "keepNoted", "()V"⟩
abbrev cX2_takeLatest : ByteArray := prog_4_method_4_code
def yX2_takeLatest : MethodName := ⟨RX2, "takeLatest", "()[I"⟩
abbrev cX2_empty : ByteArray := prog_4_method_5_code
def yX2_empty : MethodName := ⟨RX2, "empty", "()V"⟩
def RX3 : String := "SelfChange$Member"
def TX3 : u_T := fun k => match k with
  | 0 => ("SelfChange$Member", "heads", "[I", true)
  | 1 => ("SelfChange$Member", "kinds", "[I", true)
  | 2 => ("SelfChange$Member", "operands", "[I", true)
  | _ => ("SelfChange$Member", "headCount", "I", false)
def tyX3 : Nat → FieldType := fun k => match k with
  | 0 => .array .int
  | 1 => .array .int
  | 2 => .array .int
  | _ => .int
abbrev wsX30 : List Cond := u_ws RX3 TX3 4
theorem nmX3 : ∀ a, a < 4 → ∀ b, b < 4 → a ≠ b → (TX3 a).2.1 ≠ (TX3 b).2.1 := by decide +kernel
theorem tyX3_ok : ∀ k, k < 4 → parseFieldDescriptor (TX3 k).2.2.1 = some (tyX3 k) := by decide +kernel
abbrev cX3_init : ByteArray := prog_5_method_1_code
def yX3_init : MethodName := ⟨RX3, "<init>", "()V"⟩
abbrev cX3_fill : ByteArray := prog_5_method_2_code
def yX3_fill : MethodName := ⟨RX3, "fill", "([II)Z"⟩
abbrev cX3_addHeadsBehind : ByteArray := prog_5_method_3_code
def yX3_addHeadsBehind : MethodName := ⟨RX3, "addHeadsBehind", "([II)Z"⟩
abbrev cX3_addHead : ByteArray := prog_5_method_4_code
def yX3_addHead : MethodName := ⟨RX3, "addHead", "(I)Z"⟩
abbrev cX3_sortHeads : ByteArray := prog_5_method_5_code
def yX3_sortHeads : MethodName := ⟨RX3, "sortHeads", "()V"⟩
abbrev cX3_decode : ByteArray := prog_5_method_6_code
def yX3_decode : MethodName := ⟨RX3, "decode", "([I)V"⟩
abbrev cX3_hasActsThatMeet : ByteArray := prog_5_method_7_code
def yX3_hasActsThatMeet : MethodName := ⟨RX3, "hasActsThatMeet", "()Z"⟩
abbrev cX3_indexOf : ByteArray := prog_5_method_8_code
def yX3_indexOf : MethodName := ⟨RX3, "indexOf", "(I)I"⟩
abbrev cX3_placeCount : ByteArray := prog_5_method_9_code
def yX3_placeCount : MethodName := ⟨RX3, "placeCount", "()I"⟩
abbrev cX3_isAsIn : ByteArray := prog_5_method_10_code
def yX3_isAsIn : MethodName := ⟨RX3, "isAsIn", "([I)Z"⟩
def RX4 : String := "SelfChange$Memory"
def TX4 : u_T := fun k => match k with
  | 0 => ("SelfChange$Memory", "bytes", "[I", true)
  | 1 => ("SelfChange$Memory", "cover", "LSelfChange$Cover;", true)
  | 2 => ("SelfChange$Memory", "live", "I", false)
  | 3 => ("SelfChange$Memory", "liveBefore", "I", false)
  | 4 => ("SelfChange$Memory", "looks", "I", false)
  | _ => ("SelfChange$Memory", "changes", "I", false)
def tyX4 : Nat → FieldType := fun k => match k with
  | 0 => .array .int
  | 1 => .object "SelfChange$Cover"
  | 2 => .int
  | 3 => .int
  | 4 => .int
  | _ => .int
abbrev wsX40 : List Cond := u_ws RX4 TX4 6
theorem nmX4 : ∀ a, a < 6 → ∀ b, b < 6 → a ≠ b → (TX4 a).2.1 ≠ (TX4 b).2.1 := by decide +kernel
theorem tyX4_ok : ∀ k, k < 6 → parseFieldDescriptor (TX4 k).2.2.1 = some (tyX4 k) := by decide +kernel
abbrev cX4_init : ByteArray := prog_6_method_1_code
def yX4_init : MethodName := ⟨RX4, "<init>", "(LSelfChange$Cover;)V"⟩
abbrev cX4_beginChanges : ByteArray := prog_6_method_2_code
def yX4_beginChanges : MethodName := ⟨RX4, "beginChanges", "()V"⟩
abbrev cX4_become : ByteArray := prog_6_method_3_code
def yX4_become : MethodName := ⟨RX4, "become", "(II)V"⟩
abbrev cX4_hasLive : ByteArray := prog_6_method_4_code
def yX4_hasLive : MethodName := ⟨RX4, "hasLive", "(I)Z"⟩
abbrev cX4_wasDropped : ByteArray := prog_6_method_5_code
def yX4_wasDropped : MethodName := ⟨RX4, "wasDropped", "(I)Z"⟩
abbrev cX4_copyFrom : ByteArray := prog_6_method_6_code
def yX4_copyFrom : MethodName := ⟨RX4, "copyFrom", "(LSelfChange$Memory;I)V"⟩
abbrev cX4_hasSameBytesAs : ByteArray := prog_6_method_7_code
def yX4_hasSameBytesAs : MethodName := ⟨RX4, "hasSameBytesAs", "(LSelfChange$Memory;)Z"⟩
abbrev cX4_empty : ByteArray := prog_6_method_8_code
def yX4_empty : MethodName := ⟨RX4, "empty", "()V"⟩
def RX5 : String := "SelfChange$Routine"
def TX5 : u_T := fun k => match k with
  | 0 => ("SelfChange$Routine", "current", "LSelfChange$Member;", false)
  | 1 => ("SelfChange$Routine", "aside", "LSelfChange$Member;", false)
  | 2 => ("SelfChange$Routine", "hasAside", "Z", false)
  | 3 => ("SelfChange$Routine", "place", "I", false)
  | _ => ("SelfChange$Routine", "drops", "I", false)
def tyX5 : Nat → FieldType := fun k => match k with
  | 0 => .object "SelfChange$Member"
  | 1 => .object "SelfChange$Member"
  | 2 => .boolean
  | 3 => .int
  | _ => .int
abbrev wsX50 : List Cond := u_ws RX5 TX5 5
theorem nmX5 : ∀ a, a < 5 → ∀ b, b < 5 → a ≠ b → (TX5 a).2.1 ≠ (TX5 b).2.1 := by decide +kernel
theorem tyX5_ok : ∀ k, k < 5 → parseFieldDescriptor (TX5 k).2.2.1 = some (tyX5 k) := by decide +kernel
abbrev cX5_init : ByteArray := prog_7_method_1_code
def yX5_init : MethodName := ⟨RX5, "<init>", "()V"⟩
abbrev cX5_begin : ByteArray := prog_7_method_2_code
def yX5_begin : MethodName := ⟨RX5, "begin", "(I)V"⟩
abbrev cX5_isWalkedForGood : ByteArray := prog_7_method_3_code
def yX5_isWalkedForGood : MethodName := ⟨RX5, "isWalkedForGood", "()Z"⟩
abbrev cX5_layAside : ByteArray := prog_7_method_4_code
def yX5_layAside : MethodName := ⟨RX5, "layAside", "()V"⟩
abbrev cX5_canComeBack : ByteArray := prog_7_method_5_code
def yX5_canComeBack : MethodName := ⟨RX5, "canComeBack", "([I)Z"⟩
abbrev cX5_takeBack : ByteArray := prog_7_method_6_code
def yX5_takeBack : MethodName := ⟨RX5, "takeBack", "()V"⟩
abbrev cX5_exchange : ByteArray := prog_7_method_7_code
def yX5_exchange : MethodName := ⟨RX5, "exchange", "()V"⟩
def RX6 : String := "SelfChange"
def TX6 : u_T := fun k => match k with
  | 0 => ("SelfChange", "cover", "LSelfChange$Cover;", true)
  | 1 => ("SelfChange", "memory", "LSelfChange$Memory;", true)
  | 2 => ("SelfChange", "routines", "[LSelfChange$Routine;", true)
  | 3 => ("SelfChange", "kept", "LSelfChange$Kept;", true)
  | 4 => ("SelfChange", "snapshots", "[[I", true)
  | 5 => ("SelfChange", "latest", "LSelfChange$Course;", true)
  | 6 => ("SelfChange", "asThingsAre", "LSelfChange$Course;", true)
  | 7 => ("SelfChange", "walkedAlone", "LSelfChange$Course;", true)
  | 8 => ("SelfChange", "trial", "LSelfChange$Member;", true)
  | 9 => ("SelfChange", "routineCount", "I", false)
  | 10 => ("SelfChange", "snapshotCount", "I", false)
  | 11 => ("SelfChange", "madeInAll", "I", false)
  | 12 => ("SelfChange", "droppedInAll", "I", false)
  | 13 => ("SelfChange", "backInAll", "I", false)
  | 14 => ("SelfChange", "byMembersInAll", "I", false)
  | _ => ("SelfChange", "walkedInAll", "I", false)
def tyX6 : Nat → FieldType := fun k => match k with
  | 0 => .object "SelfChange$Cover"
  | 1 => .object "SelfChange$Memory"
  | 2 => .array (.object "SelfChange$Routine")
  | 3 => .object "SelfChange$Kept"
  | 4 => .array (.array .int)
  | 5 => .object "SelfChange$Course"
  | 6 => .object "SelfChange$Course"
  | 7 => .object "SelfChange$Course"
  | 8 => .object "SelfChange$Member"
  | 9 => .int
  | 10 => .int
  | 11 => .int
  | 12 => .int
  | 13 => .int
  | 14 => .int
  | _ => .int
abbrev wsX60 : List Cond := u_ws RX6 TX6 16
theorem nmX6 : ∀ a, a < 16 → ∀ b, b < 16 → a ≠ b → (TX6 a).2.1 ≠ (TX6 b).2.1 := by decide +kernel
theorem tyX6_ok : ∀ k, k < 16 → parseFieldDescriptor (TX6 k).2.2.1 = some (tyX6 k) := by decide +kernel
abbrev cX6_init : ByteArray := prog_1_method_1_code
def yX6_init : MethodName := ⟨RX6, "<init>", "()V"⟩
abbrev cX6_put : ByteArray := prog_1_method_2_code
def yX6_put : MethodName := ⟨RX6, "put", "(IJI)I"⟩
abbrev cX6_write : ByteArray := prog_1_method_3_code
def yX6_write : MethodName := ⟨RX6, "write", "(II)I"⟩
abbrev cX6_read : ByteArray := prog_1_method_4_code
def yX6_read : MethodName := ⟨RX6, "read", "(I)I"⟩
abbrev cX6_routine : ByteArray := prog_1_method_5_code
def yX6_routine : MethodName := ⟨RX6, "routine", "(I)I"⟩
abbrev cX6_make : ByteArray := prog_1_method_6_code
def yX6_make : MethodName := ⟨RX6, "make", "()I"⟩
abbrev cX6_member : ByteArray := prog_1_method_7_code
def yX6_member : MethodName := ⟨RX6, "member", "(II)I"⟩
abbrev cX6_head : ByteArray := prog_1_method_8_code
def yX6_head : MethodName := ⟨RX6, "head", "(II)I"⟩
abbrev cX6_makeable : ByteArray := prog_1_method_9_code
def yX6_makeable : MethodName := ⟨RX6, "makeable", "(I)I"⟩
abbrev cX6_run : ByteArray := prog_1_method_10_code
def yX6_run : MethodName := ⟨RX6, "run", "(IIII)I"⟩
abbrev cX6_ran : ByteArray := prog_1_method_11_code
def yX6_ran : MethodName := ⟨RX6, "ran", "(I)I"⟩
abbrev cX6_alike : ByteArray := prog_1_method_12_code
def yX6_alike : MethodName := ⟨RX6, "alike", "(IIII)I"⟩
abbrev cX6_page : ByteArray := prog_1_method_13_code
def yX6_page : MethodName := ⟨RX6, "page", "(I)I"⟩
abbrev cX6_snapshot : ByteArray := prog_1_method_14_code
def yX6_snapshot : MethodName := ⟨RX6, "snapshot", "()I"⟩
abbrev cX6_restore : ByteArray := prog_1_method_15_code
def yX6_restore : MethodName := ⟨RX6, "restore", "(I)I"⟩
abbrev cX6_undo : ByteArray := prog_1_method_16_code
def yX6_undo : MethodName := ⟨RX6, "undo", "()I"⟩
abbrev cX6_share : ByteArray := prog_1_method_17_code
def yX6_share : MethodName := ⟨RX6, "share", "()I"⟩
abbrev cX6_count : ByteArray := prog_1_method_18_code
def yX6_count : MethodName := ⟨RX6, "count", "(I)I"⟩
abbrev cX6_clear : ByteArray := prog_1_method_19_code
def yX6_clear : MethodName := ⟨RX6, "clear", "()I"⟩
abbrev cX6_isNoPlace : ByteArray := prog_1_method_20_code
def yX6_isNoPlace : MethodName := ⟨RX6, "isNoPlace", "(I)Z"⟩
abbrev cX6_isNoRoutine : ByteArray := prog_1_method_21_code
def yX6_isNoRoutine : MethodName := ⟨RX6, "isNoRoutine", "(I)Z"⟩
abbrev cX6_refusalOfRun : ByteArray := prog_1_method_22_code
def yX6_refusalOfRun : MethodName := ⟨RX6, "refusalOfRun", "(II)I"⟩
abbrev cX6_beginKeeping : ByteArray := prog_1_method_23_code
def yX6_beginKeeping : MethodName := ⟨RX6, "beginKeeping", "()V"⟩
abbrev cX6_endKeeping : ByteArray := prog_1_method_24_code
def yX6_endKeeping : MethodName := ⟨RX6, "endKeeping", "()I"⟩
abbrev cX6_returnTo : ByteArray := prog_1_method_25_code
def yX6_returnTo : MethodName := ⟨RX6, "returnTo", "([I)I"⟩
abbrev cX6_layDroppedAside : ByteArray := prog_1_method_26_code
def yX6_layDroppedAside : MethodName := ⟨RX6, "layDroppedAside", "()I"⟩
abbrev cX6_bringBack : ByteArray := prog_1_method_27_code
def yX6_bringBack : MethodName := ⟨RX6, "bringBack", "()I"⟩
abbrev cX6_giveMember : ByteArray := prog_1_method_28_code
def yX6_giveMember : MethodName := ⟨RX6, "giveMember", "(I)V"⟩
abbrev cX6_countWalkedForGood : ByteArray := prog_1_method_29_code
def yX6_countWalkedForGood : MethodName := ⟨RX6, "countWalkedForGood", "()I"⟩
abbrev cX6_isKind : ByteArray := prog_1_method_30_code
def yX6_isKind : MethodName := ⟨RX6, "isKind", "(I)Z"⟩
abbrev cX6_hasOperand : ByteArray := prog_1_method_31_code
def yX6_hasOperand : MethodName := ⟨RX6, "hasOperand", "(I)Z"⟩
abbrev cX6_lengthOf : ByteArray := prog_1_method_32_code
def yX6_lengthOf : MethodName := ⟨RX6, "lengthOf", "(I)I"⟩
abbrev cX6_canGoElsewhere : ByteArray := prog_1_method_33_code
def yX6_canGoElsewhere : MethodName := ⟨RX6, "canGoElsewhere", "(I)Z"⟩
def RX7 : String := "SelfChangeModel"
def TX7 : u_T := fun k => match k with
  | 0 => ("SelfChangeModel", "thrown", "I", false)
  | 1 => ("SelfChangeModel", "memory", "[I", true)
  | 2 => ("SelfChangeModel", "routines", "I", false)
  | 3 => ("SelfChangeModel", "begins", "[I", true)
  | 4 => ("SelfChangeModel", "has", "[Z", true)
  | 5 => ("SelfChangeModel", "isHead", "[Z", true)
  | 6 => ("SelfChangeModel", "isIn", "[Z", true)
  | 7 => ("SelfChangeModel", "asMade", "[I", true)
  | 8 => ("SelfChangeModel", "drops", "[I", true)
  | 9 => ("SelfChangeModel", "lies", "[Z", true)
  | 10 => ("SelfChangeModel", "asideHead", "[Z", true)
  | 11 => ("SelfChangeModel", "asideIn", "[Z", true)
  | 12 => ("SelfChangeModel", "asideByte", "[I", true)
  | 13 => ("SelfChangeModel", "looks", "I", false)
  | 14 => ("SelfChangeModel", "madeAll", "I", false)
  | 15 => ("SelfChangeModel", "droppedAll", "I", false)
  | 16 => ("SelfChangeModel", "backAll", "I", false)
  | 17 => ("SelfChangeModel", "byMembers", "J", false)
  | 18 => ("SelfChangeModel", "walked", "J", false)
  | 19 => ("SelfChangeModel", "snapshots", "I", false)
  | 20 => ("SelfChangeModel", "snapshot", "[I", true)
  | 21 => ("SelfChangeModel", "keptMany", "I", false)
  | 22 => ("SelfChangeModel", "kept", "[I", true)
  | 23 => ("SelfChangeModel", "before", "[I", true)
  | 24 => ("SelfChangeModel", "told", "[I", true)
  | 25 => ("SelfChangeModel", "head", "[Z", true)
  | 26 => ("SelfChangeModel", "gone", "[Z", true)
  | 27 => ("SelfChangeModel", "covered", "[I", true)
  | 28 => ("SelfChangeModel", "callers", "[I", true)
  | 29 => ("SelfChangeModel", "returns", "[I", true)
  | 30 => ("SelfChangeModel", "a", "I", false)
  | 31 => ("SelfChangeModel", "b", "I", false)
  | 32 => ("SelfChangeModel", "at", "I", false)
  | 33 => ("SelfChangeModel", "in1", "I", false)
  | 34 => ("SelfChangeModel", "deep", "I", false)
  | 35 => ("SelfChangeModel", "steps", "I", false)
  | 36 => ("SelfChangeModel", "members", "I", false)
  | 37 => ("SelfChangeModel", "dropped", "I", false)
  | 38 => ("SelfChangeModel", "others", "I", false)
  | _ => ("SelfChangeModel", "most", "I", false)
def tyX7 : Nat → FieldType := fun k => match k with
  | 0 => .int
  | 1 => .array .int
  | 2 => .int
  | 3 => .array .int
  | 4 => .array .boolean
  | 5 => .array .boolean
  | 6 => .array .boolean
  | 7 => .array .int
  | 8 => .array .int
  | 9 => .array .boolean
  | 10 => .array .boolean
  | 11 => .array .boolean
  | 12 => .array .int
  | 13 => .int
  | 14 => .int
  | 15 => .int
  | 16 => .int
  | 17 => .long
  | 18 => .long
  | 19 => .int
  | 20 => .array .int
  | 21 => .int
  | 22 => .array .int
  | 23 => .array .int
  | 24 => .array .int
  | 25 => .array .boolean
  | 26 => .array .boolean
  | 27 => .array .int
  | 28 => .array .int
  | 29 => .array .int
  | 30 => .int
  | 31 => .int
  | 32 => .int
  | 33 => .int
  | 34 => .int
  | 35 => .int
  | 36 => .int
  | 37 => .int
  | 38 => .int
  | _ => .int
abbrev wsX70 : List Cond := u_ws RX7 TX7 40
theorem nmX7 : ∀ a, a < 40 → ∀ b, b < 40 → a ≠ b → (TX7 a).2.1 ≠ (TX7 b).2.1 := by decide +kernel
theorem tyX7_ok : ∀ k, k < 40 → parseFieldDescriptor (TX7 k).2.2.1 = some (tyX7 k) := by decide +kernel
abbrev cX7_init : ByteArray := prog_9_method_1_code
def yX7_init : MethodName := ⟨RX7, "<init>", "()V"⟩
abbrev cX7_thrown : ByteArray := prog_9_method_2_code
def yX7_thrown : MethodName := ⟨RX7, "thrown", "()I"⟩
abbrev cX7_in : ByteArray := prog_9_method_3_code
def yX7_in : MethodName := ⟨RX7, "in", "(III)Z"⟩
abbrev cX7_isRoutine : ByteArray := prog_9_method_4_code
def yX7_isRoutine : MethodName := ⟨RX7, "isRoutine", "(I)Z"⟩
abbrev cX7_isLooked : ByteArray := prog_9_method_5_code
def yX7_isLooked : MethodName := ⟨RX7, "isLooked", "(I)Z"⟩
abbrev cX7_drop : ByteArray := prog_9_method_6_code
def yX7_drop : MethodName := ⟨RX7, "drop", "(I)V"⟩
abbrev cX7_becomes : ByteArray := prog_9_method_7_code
def yX7_becomes : MethodName := ⟨RX7, "becomes", "(II)I"⟩
abbrev cX7_note : ByteArray := prog_9_method_8_code
def yX7_note : MethodName := ⟨RX7, "note", "()V"⟩
abbrev cX7_keep : ByteArray := prog_9_method_9_code
def yX7_keep : MethodName := ⟨RX7, "keep", "()V"⟩
abbrev cX7_put : ByteArray := prog_9_method_10_code
def yX7_put : MethodName := ⟨RX7, "put", "(IJI)I"⟩
abbrev cX7_write : ByteArray := prog_9_method_11_code
def yX7_write : MethodName := ⟨RX7, "write", "(II)I"⟩
abbrev cX7_read : ByteArray := prog_9_method_12_code
def yX7_read : MethodName := ⟨RX7, "read", "(I)I"⟩
abbrev cX7_routine : ByteArray := prog_9_method_13_code
def yX7_routine : MethodName := ⟨RX7, "routine", "(I)I"⟩
abbrev cX7_isLong : ByteArray := prog_9_method_14_code
def yX7_isLong : MethodName := ⟨RX7, "isLong", "(I)Z"⟩
abbrev cX7_behind : ByteArray := prog_9_method_15_code
def yX7_behind : MethodName := ⟨RX7, "behind", "(I)I"⟩
abbrev cX7_other : ByteArray := prog_9_method_16_code
def yX7_other : MethodName := ⟨RX7, "other", "(I)I"⟩
abbrev cX7_find : ByteArray := prog_9_method_17_code
def yX7_find : MethodName := ⟨RX7, "find", "(I)Z"⟩
abbrev cX7_make : ByteArray := prog_9_method_18_code
def yX7_make : MethodName := ⟨RX7, "make", "()I"⟩
abbrev cX7_countOf : ByteArray := prog_9_method_19_code
def yX7_countOf : MethodName := ⟨RX7, "countOf", "(IZ)I"⟩
abbrev cX7_member : ByteArray := prog_9_method_20_code
def yX7_member : MethodName := ⟨RX7, "member", "(II)I"⟩
abbrev cX7_head : ByteArray := prog_9_method_21_code
def yX7_head : MethodName := ⟨RX7, "head", "(II)I"⟩
abbrev cX7_makeable : ByteArray := prog_9_method_22_code
def yX7_makeable : MethodName := ⟨RX7, "makeable", "(I)I"⟩
abbrev cX7_changes : ByteArray := prog_9_method_23_code
def yX7_changes : MethodName := ⟨RX7, "changes", "(II)V"⟩
abbrev cX7_works : ByteArray := prog_9_method_24_code
def yX7_works : MethodName := ⟨RX7, "works", "(II)V"⟩
abbrev cX7_calls : ByteArray := prog_9_method_25_code
def yX7_calls : MethodName := ⟨RX7, "calls", "(II)I"⟩
abbrev cX7_act : ByteArray := prog_9_method_26_code
def yX7_act : MethodName := ⟨RX7, "act", "(I)I"⟩
abbrev cX7_run : ByteArray := prog_9_method_27_code
def yX7_run : MethodName := ⟨RX7, "run", "(IIII)I"⟩
abbrev cX7_ran : ByteArray := prog_9_method_28_code
def yX7_ran : MethodName := ⟨RX7, "ran", "(I)I"⟩
abbrev cX7_alike : ByteArray := prog_9_method_29_code
def yX7_alike : MethodName := ⟨RX7, "alike", "(IIII)I"⟩
abbrev cX7_page : ByteArray := prog_9_method_30_code
def yX7_page : MethodName := ⟨RX7, "page", "(I)I"⟩
abbrev cX7_snapshot : ByteArray := prog_9_method_31_code
def yX7_snapshot : MethodName := ⟨RX7, "snapshot", "()I"⟩
abbrev cX7_isAsMade : ByteArray := prog_9_method_32_code
def yX7_isAsMade : MethodName := ⟨RX7, "isAsMade", "(I)Z"⟩
abbrev cX7_returned : ByteArray := prog_9_method_33_code
def yX7_returned : MethodName := ⟨RX7, "returned", "()I"⟩
abbrev cX7_restore : ByteArray := prog_9_method_34_code
def yX7_restore : MethodName := ⟨RX7, "restore", "(I)I"⟩
abbrev cX7_undo : ByteArray := prog_9_method_35_code
def yX7_undo : MethodName := ⟨RX7, "undo", "()I"⟩
abbrev cX7_share : ByteArray := prog_9_method_36_code
def yX7_share : MethodName := ⟨RX7, "share", "()I"⟩
abbrev cX7_count : ByteArray := prog_9_method_37_code
def yX7_count : MethodName := ⟨RX7, "count", "(I)I"⟩
abbrev cX7_clear : ByteArray := prog_9_method_38_code
def yX7_clear : MethodName := ⟨RX7, "clear", "()I"⟩
def RJx00060 : String := "java/lang/ArrayIndexOutOfBoundsException"
def TJx00060 : u_T := fun k => match k with
  | 0 => ("java/lang/Throwable", "backtrace", "Ljava/lang/Object;", false)
  | 1 => ("java/lang/Throwable", "detailMessage", "Ljava/lang/String;", false)
  | 2 => ("java/lang/Throwable", "cause", "Ljava/lang/Throwable;", false)
  | 3 => ("java/lang/Throwable", "stackTrace", "[Ljava/lang/StackTraceElement;", false)
  | 4 => ("java/lang/Throwable", "depth", "I", false)
  | _ => ("java/lang/Throwable", "suppressedExceptions", "Ljava/util/List;", false)
def tyJx00060 : Nat → FieldType := fun k => match k with
  | 0 => .object "java/lang/Object"
  | 1 => .object "java/lang/String"
  | 2 => .object "java/lang/Throwable"
  | 3 => .array (.object "java/lang/StackTraceElement")
  | 4 => .int
  | _ => .object "java/util/List"
abbrev wsJx000600 : List Cond := u_ws RJx00060 TJx00060 6
theorem nmJx00060 : ∀ a, a < 6 → ∀ b, b < 6 → a ≠ b → (TJx00060 a).2.1 ≠ (TJx00060 b).2.1 := by decide +kernel
theorem tyJx00060_ok : ∀ k, k < 6 → parseFieldDescriptor (TJx00060 k).2.2.1 = some (tyJx00060 k) := by decide +kernel
abbrev cJx00060_init_a7421 : ByteArray := prog_11_method_2_code
def yJx00060_init_a7421 : MethodName := ⟨RJx00060, "<init>", "(Ljava/lang/String;)V"⟩
def RJ6 : String := "java/lang/Integer"
def TJ6 : u_T := fun k => match k with
  | _ => ("", "", "", false)
def tyJ6 : Nat → FieldType := fun k => match k with
  | _ => .int
abbrev wsJ60 : List Cond := u_ws RJ6 TJ6 0
theorem nmJ6 : ∀ a, a < 0 → ∀ b, b < 0 → a ≠ b → (TJ6 a).2.1 ≠ (TJ6 b).2.1 := by decide +kernel
theorem tyJ6_ok : ∀ k, k < 0 → parseFieldDescriptor (TJ6 k).2.2.1 = some (tyJ6 k) := by decide +kernel
abbrev cJ6_bitCount_0f7a4 : ByteArray := prog_14_method_49_code
def yJ6_bitCount_0f7a4 : MethodName := ⟨RJ6, "bitCount", "(I)I"⟩
def RJ9 : String := "java/lang/Math"
def TJ9 : u_T := fun k => match k with
  | _ => ("", "", "", false)
def tyJ9 : Nat → FieldType := fun k => match k with
  | _ => .int
abbrev wsJ90 : List Cond := u_ws RJ9 TJ9 0
theorem nmJ9 : ∀ a, a < 0 → ∀ b, b < 0 → a ≠ b → (TJ9 a).2.1 ≠ (TJ9 b).2.1 := by decide +kernel
theorem tyJ9_ok : ∀ k, k < 0 → parseFieldDescriptor (TJ9 k).2.2.1 = some (tyJ9 k) := by decide +kernel
abbrev cJ9_max_7cf53 : ByteArray := prog_15_method_65_code
def yJ9_max_7cf53 : MethodName := ⟨RJ9, "max", "(II)I"⟩
def RJx5d777 : String := "java/lang/NullPointerException"
def TJx5d777 : u_T := fun k => match k with
  | 0 => ("java/lang/Throwable", "backtrace", "Ljava/lang/Object;", false)
  | 1 => ("java/lang/Throwable", "detailMessage", "Ljava/lang/String;", false)
  | 2 => ("java/lang/Throwable", "cause", "Ljava/lang/Throwable;", false)
  | 3 => ("java/lang/Throwable", "stackTrace", "[Ljava/lang/StackTraceElement;", false)
  | 4 => ("java/lang/Throwable", "depth", "I", false)
  | 5 => ("java/lang/Throwable", "suppressedExceptions", "Ljava/util/List;", false)
  | 6 => ("java/lang/NullPointerException", "extendedMessageState", "I", false)
  | _ => ("java/lang/NullPointerException", "extendedMessage", "Ljava/lang/String;", false)
def tyJx5d777 : Nat → FieldType := fun k => match k with
  | 0 => .object "java/lang/Object"
  | 1 => .object "java/lang/String"
  | 2 => .object "java/lang/Throwable"
  | 3 => .array (.object "java/lang/StackTraceElement")
  | 4 => .int
  | 5 => .object "java/util/List"
  | 6 => .int
  | _ => .object "java/lang/String"
abbrev wsJx5d7770 : List Cond := u_ws RJx5d777 TJx5d777 8
theorem nmJx5d777 : ∀ a, a < 8 → ∀ b, b < 8 → a ≠ b → (TJx5d777 a).2.1 ≠ (TJx5d777 b).2.1 := by decide +kernel
theorem tyJx5d777_ok : ∀ k, k < 8 → parseFieldDescriptor (TJx5d777 k).2.2.1 = some (tyJx5d777 k) := by decide +kernel
abbrev cJx5d777_init_da8c8 : ByteArray := prog_16_method_1_code
def yJx5d777_init_da8c8 : MethodName := ⟨RJx5d777, "<init>", "()V"⟩
abbrev cJx5d777_init_a7421 : ByteArray := prog_16_method_2_code
def yJx5d777_init_a7421 : MethodName := ⟨RJx5d777, "<init>", "(Ljava/lang/String;)V"⟩
abbrev cJx5d777_fillInStackTrace_cddbd : ByteArray := prog_16_method_3_code
def yJx5d777_fillInStackTrace_cddbd : MethodName := ⟨RJx5d777, "fillInStackTrace", "()Ljava/lang/Throwable;"⟩
def RJ0 : String := "java/lang/String"
def TJ0 : u_T := fun k => match k with
  | 0 => ("java/lang/String", "value", "[B", true)
  | _ => ("java/lang/String", "coder", "B", true)
def tyJ0 : Nat → FieldType := fun k => match k with
  | 0 => .array .byte
  | _ => .byte
abbrev wsJ00 : List Cond := u_ws RJ0 TJ0 2
theorem nmJ0 : ∀ a, a < 2 → ∀ b, b < 2 → a ≠ b → (TJ0 a).2.1 ≠ (TJ0 b).2.1 := by decide +kernel
theorem tyJ0_ok : ∀ k, k < 2 → parseFieldDescriptor (TJ0 k).2.2.1 = some (tyJ0 k) := by decide +kernel
def RJ10 : String := "java/lang/System"
def TJ10 : u_T := fun k => match k with
  | _ => ("", "", "", false)
def tyJ10 : Nat → FieldType := fun k => match k with
  | _ => .int
abbrev wsJ100 : List Cond := u_ws RJ10 TJ10 0
theorem nmJ10 : ∀ a, a < 0 → ∀ b, b < 0 → a ≠ b → (TJ10 a).2.1 ≠ (TJ10 b).2.1 := by decide +kernel
theorem tyJ10_ok : ∀ k, k < 0 → parseFieldDescriptor (TJ10 k).2.2.1 = some (tyJ10 k) := by decide +kernel
def RJ7 : String := "java/util/Arrays"
def TJ7 : u_T := fun k => match k with
  | _ => ("", "", "", false)
def tyJ7 : Nat → FieldType := fun k => match k with
  | _ => .int
abbrev wsJ70 : List Cond := u_ws RJ7 TJ7 0
theorem nmJ7 : ∀ a, a < 0 → ∀ b, b < 0 → a ≠ b → (TJ7 a).2.1 ≠ (TJ7 b).2.1 := by decide +kernel
theorem tyJ7_ok : ∀ k, k < 0 → parseFieldDescriptor (TJ7 k).2.2.1 = some (tyJ7 k) := by decide +kernel
abbrev cJ7_fill_53178 : ByteArray := prog_21_method_103_code
def yJ7_fill_53178 : MethodName := ⟨RJ7, "fill", "([II)V"⟩
def RL : String := "SelfChangeLaw"
abbrev cL_read : ByteArray := method_3_code
def yL_read : MethodName := ⟨RL, "read", "(LSelfChange;I[J)I"⟩
abbrev cL_head : ByteArray := method_4_code
def yL_head : MethodName := ⟨RL, "head", "(LSelfChange;II[J)I"⟩
abbrev cL_share : ByteArray := method_5_code
def yL_share : MethodName := ⟨RL, "share", "(LSelfChange;[J)I"⟩
abbrev cL_law : ByteArray := code
def yL_law : MethodName := ⟨RL, "law", "([I)Z"⟩
end
section
theorem dX0_init_0 : decode cX0_init 0 = .ok (.aload_n 0, 1) := by decide +kernel
theorem dX0_init_1 : decode cX0_init 1 = .ok (.invokespecial 3, 3) := by decide +kernel
theorem dX0_init_4 : decode cX0_init 4 = .ok (.aload_n 0, 1) := by decide +kernel
theorem dX0_init_5 : decode cX0_init 5 = .ok (.bipush 6, 2) := by decide +kernel
theorem dX0_init_7 : decode cX0_init 7 = .ok (.newarray .int, 2) := by decide +kernel
theorem dX0_init_9 : decode cX0_init 9 = .ok (.putfield 9, 3) := by decide +kernel
theorem dX0_init_12 : decode cX0_init 12 = .ok (.aload_n 0, 1) := by decide +kernel
theorem dX0_init_13 : decode cX0_init 13 = .ok (.bipush 6, 2) := by decide +kernel
theorem dX0_init_15 : decode cX0_init 15 = .ok (.newarray .int, 2) := by decide +kernel
theorem dX0_init_17 : decode cX0_init 17 = .ok (.putfield 15, 3) := by decide +kernel
theorem dX0_init_20 : decode cX0_init 20 = .ok (.aload_n 0, 1) := by decide +kernel
theorem dX0_init_21 : decode cX0_init 21 = .ok (.aload_n 1, 1) := by decide +kernel
theorem dX0_init_22 : decode cX0_init 22 = .ok (.putfield 18, 3) := by decide +kernel
theorem dX0_init_25 : decode cX0_init 25 = .ok (.aload_n 0, 1) := by decide +kernel
theorem dX0_init_26 : decode cX0_init 26 = .ok (.aload_n 2, 1) := by decide +kernel
theorem dX0_init_27 : decode cX0_init 27 = .ok (.putfield 22, 3) := by decide +kernel
theorem dX0_init_30 : decode cX0_init 30 = .ok (.return_, 1) := by decide +kernel
theorem dX0_empty_0 : decode cX0_empty 0 = .ok (.aload_n 0, 1) := by decide +kernel
theorem dX0_empty_1 : decode cX0_empty 1 = .ok (.iconst 0, 1) := by decide +kernel
theorem dX0_empty_2 : decode cX0_empty 2 = .ok (.putfield 26, 3) := by decide +kernel
theorem dX0_empty_5 : decode cX0_empty 5 = .ok (.aload_n 0, 1) := by decide +kernel
theorem dX0_empty_6 : decode cX0_empty 6 = .ok (.iconst 0, 1) := by decide +kernel
theorem dX0_empty_7 : decode cX0_empty 7 = .ok (.putfield 30, 3) := by decide +kernel
theorem dX0_empty_10 : decode cX0_empty 10 = .ok (.aload_n 0, 1) := by decide +kernel
theorem dX0_empty_11 : decode cX0_empty 11 = .ok (.iconst 0, 1) := by decide +kernel
theorem dX0_empty_12 : decode cX0_empty 12 = .ok (.putfield 33, 3) := by decide +kernel
theorem dX0_empty_15 : decode cX0_empty 15 = .ok (.aload_n 0, 1) := by decide +kernel
theorem dX0_empty_16 : decode cX0_empty 16 = .ok (.iconst 0, 1) := by decide +kernel
theorem dX0_empty_17 : decode cX0_empty 17 = .ok (.putfield 36, 3) := by decide +kernel
theorem dX0_empty_20 : decode cX0_empty 20 = .ok (.aload_n 0, 1) := by decide +kernel
theorem dX0_empty_21 : decode cX0_empty 21 = .ok (.iconst 0, 1) := by decide +kernel
theorem dX0_empty_22 : decode cX0_empty 22 = .ok (.putfield 39, 3) := by decide +kernel
theorem dX0_empty_25 : decode cX0_empty 25 = .ok (.aload_n 0, 1) := by decide +kernel
theorem dX0_empty_26 : decode cX0_empty 26 = .ok (.iconst 0, 1) := by decide +kernel
theorem dX0_empty_27 : decode cX0_empty 27 = .ok (.putfield 42, 3) := by decide +kernel
theorem dX0_empty_30 : decode cX0_empty 30 = .ok (.aload_n 0, 1) := by decide +kernel
theorem dX0_empty_31 : decode cX0_empty 31 = .ok (.iconst 0, 1) := by decide +kernel
theorem dX0_empty_32 : decode cX0_empty 32 = .ok (.putfield 45, 3) := by decide +kernel
theorem dX0_empty_35 : decode cX0_empty 35 = .ok (.aload_n 0, 1) := by decide +kernel
theorem dX0_empty_36 : decode cX0_empty 36 = .ok (.iconst 0, 1) := by decide +kernel
theorem dX0_empty_37 : decode cX0_empty 37 = .ok (.putfield 48, 3) := by decide +kernel
theorem dX0_empty_40 : decode cX0_empty 40 = .ok (.aload_n 0, 1) := by decide +kernel
theorem dX0_empty_41 : decode cX0_empty 41 = .ok (.iconst 0, 1) := by decide +kernel
theorem dX0_empty_42 : decode cX0_empty 42 = .ok (.putfield 51, 3) := by decide +kernel
theorem dX0_empty_45 : decode cX0_empty 45 = .ok (.aload_n 0, 1) := by decide +kernel
theorem dX0_empty_46 : decode cX0_empty 46 = .ok (.iconst 0, 1) := by decide +kernel
theorem dX0_empty_47 : decode cX0_empty 47 = .ok (.putfield 54, 3) := by decide +kernel
theorem dX0_empty_50 : decode cX0_empty 50 = .ok (.return_, 1) := by decide +kernel
theorem dX0_begin_0 : decode cX0_begin 0 = .ok (.aload_n 0, 1) := by decide +kernel
theorem dX0_begin_1 : decode cX0_begin 1 = .ok (.invokevirtual 57, 3) := by decide +kernel
theorem dX0_begin_4 : decode cX0_begin 4 = .ok (.aload_n 0, 1) := by decide +kernel
theorem dX0_begin_5 : decode cX0_begin 5 = .ok (.iload_n 2, 1) := by decide +kernel
theorem dX0_begin_6 : decode cX0_begin 6 = .ok (.putfield 33, 3) := by decide +kernel
theorem dX0_begin_9 : decode cX0_begin 9 = .ok (.aload_n 0, 1) := by decide +kernel
theorem dX0_begin_10 : decode cX0_begin 10 = .ok (.iload_n 3, 1) := by decide +kernel
theorem dX0_begin_11 : decode cX0_begin 11 = .ok (.putfield 36, 3) := by decide +kernel
theorem dX0_begin_14 : decode cX0_begin 14 = .ok (.aload_n 0, 1) := by decide +kernel
theorem dX0_begin_15 : decode cX0_begin 15 = .ok (.iload_n 1, 1) := by decide +kernel
theorem dX0_begin_16 : decode cX0_begin 16 = .ok (.iconst 0, 1) := by decide +kernel
theorem dX0_begin_17 : decode cX0_begin 17 = .ok (.invokevirtual 60, 3) := by decide +kernel
theorem dX0_begin_20 : decode cX0_begin 20 = .ok (.return_, 1) := by decide +kernel
theorem dX0_steps_0 : decode cX0_steps 0 = .ok (.aload_n 0, 1) := by decide +kernel
theorem dX0_steps_1 : decode cX0_steps 1 = .ok (.getfield 42, 3) := by decide +kernel
theorem dX0_steps_4 : decode cX0_steps 4 = .ok (.aload_n 0, 1) := by decide +kernel
theorem dX0_steps_5 : decode cX0_steps 5 = .ok (.getfield 45, 3) := by decide +kernel
theorem dX0_steps_8 : decode cX0_steps 8 = .ok (.iadd, 1) := by decide +kernel
theorem dX0_steps_9 : decode cX0_steps 9 = .ok (.ireturn, 1) := by decide +kernel
theorem dX0_follow_0 : decode cX0_follow 0 = .ok (.iconst 0, 1) := by decide +kernel
theorem dX0_follow_1 : decode cX0_follow 1 = .ok (.istore_n 3, 1) := by decide +kernel
theorem dX0_follow_2 : decode cX0_follow 2 = .ok (.iload_n 3, 1) := by decide +kernel
theorem dX0_follow_3 : decode cX0_follow 3 = .ok (.iload_n 1, 1) := by decide +kernel
theorem dX0_follow_4 : decode cX0_follow 4 = .ok (.if_icmp .ge 21, 3) := by decide +kernel
theorem dX0_follow_7 : decode cX0_follow 7 = .ok (.aload_n 0, 1) := by decide +kernel
theorem dX0_follow_8 : decode cX0_follow 8 = .ok (.getfield 54, 3) := by decide +kernel
theorem dX0_follow_11 : decode cX0_follow 11 = .ok (.ifCond .ne 14, 3) := by decide +kernel
theorem dX0_follow_14 : decode cX0_follow 14 = .ok (.aload_n 0, 1) := by decide +kernel
theorem dX0_follow_15 : decode cX0_follow 15 = .ok (.iload_n 2, 1) := by decide +kernel
theorem dX0_follow_16 : decode cX0_follow 16 = .ok (.invokevirtual 64, 3) := by decide +kernel
theorem dX0_follow_19 : decode cX0_follow 19 = .ok (.iinc 3 1, 3) := by decide +kernel
theorem dX0_follow_22 : decode cX0_follow 22 = .ok (.goto (-20), 3) := by decide +kernel
theorem dX0_follow_25 : decode cX0_follow 25 = .ok (.aload_n 0, 1) := by decide +kernel
theorem dX0_follow_26 : decode cX0_follow 26 = .ok (.getfield 54, 3) := by decide +kernel
theorem dX0_follow_29 : decode cX0_follow 29 = .ok (.ifCond .ne 9, 3) := by decide +kernel
theorem dX0_follow_32 : decode cX0_follow 32 = .ok (.aload_n 0, 1) := by decide +kernel
theorem dX0_follow_33 : decode cX0_follow 33 = .ok (.bipush (-4), 2) := by decide +kernel
theorem dX0_follow_35 : decode cX0_follow 35 = .ok (.putfield 54, 3) := by decide +kernel
theorem dX0_follow_38 : decode cX0_follow 38 = .ok (.aload_n 0, 1) := by decide +kernel
theorem dX0_follow_39 : decode cX0_follow 39 = .ok (.aload_n 0, 1) := by decide +kernel
theorem dX0_follow_40 : decode cX0_follow 40 = .ok (.getfield 18, 3) := by decide +kernel
theorem dX0_follow_43 : decode cX0_follow 43 = .ok (.getfield 68, 3) := by decide +kernel
theorem dX0_follow_46 : decode cX0_follow 46 = .ok (.aload_n 0, 1) := by decide +kernel
theorem dX0_follow_47 : decode cX0_follow 47 = .ok (.getfield 18, 3) := by decide +kernel
theorem dX0_follow_50 : decode cX0_follow 50 = .ok (.getfield 73, 3) := by decide +kernel
theorem dX0_follow_53 : decode cX0_follow 53 = .ok (.iconst (-1), 1) := by decide +kernel
theorem dX0_follow_54 : decode cX0_follow 54 = .ok (.ixor, 1) := by decide +kernel
theorem dX0_follow_55 : decode cX0_follow 55 = .ok (.iand, 1) := by decide +kernel
theorem dX0_follow_56 : decode cX0_follow 56 = .ok (.invokestatic 76, 3) := by decide +kernel
theorem dX0_follow_59 : decode cX0_follow 59 = .ok (.putfield 48, 3) := by decide +kernel
theorem dX0_follow_62 : decode cX0_follow 62 = .ok (.aload_n 0, 1) := by decide +kernel
theorem dX0_follow_63 : decode cX0_follow 63 = .ok (.aload_n 0, 1) := by decide +kernel
theorem dX0_follow_64 : decode cX0_follow 64 = .ok (.getfield 18, 3) := by decide +kernel
theorem dX0_follow_67 : decode cX0_follow 67 = .ok (.getfield 82, 3) := by decide +kernel
theorem dX0_follow_70 : decode cX0_follow 70 = .ok (.putfield 51, 3) := by decide +kernel
theorem dX0_follow_73 : decode cX0_follow 73 = .ok (.return_, 1) := by decide +kernel
theorem dX0_cameToTheSameAs_0 : decode cX0_cameToTheSameAs 0 = .ok (.aload_n 0, 1) := by decide +kernel
theorem dX0_cameToTheSameAs_1 : decode cX0_cameToTheSameAs 1 = .ok (.getfield 54, 3) := by decide +kernel
theorem dX0_cameToTheSameAs_4 : decode cX0_cameToTheSameAs 4 = .ok (.aload_n 1, 1) := by decide +kernel
theorem dX0_cameToTheSameAs_5 : decode cX0_cameToTheSameAs 5 = .ok (.getfield 54, 3) := by decide +kernel
theorem dX0_cameToTheSameAs_8 : decode cX0_cameToTheSameAs 8 = .ok (.if_icmp .ne 65, 3) := by decide +kernel
theorem dX0_cameToTheSameAs_11 : decode cX0_cameToTheSameAs 11 = .ok (.aload_n 0, 1) := by decide +kernel
theorem dX0_cameToTheSameAs_12 : decode cX0_cameToTheSameAs 12 = .ok (.getfield 33, 3) := by decide +kernel
theorem dX0_cameToTheSameAs_15 : decode cX0_cameToTheSameAs 15 = .ok (.aload_n 1, 1) := by decide +kernel
theorem dX0_cameToTheSameAs_16 : decode cX0_cameToTheSameAs 16 = .ok (.getfield 33, 3) := by decide +kernel
theorem dX0_cameToTheSameAs_19 : decode cX0_cameToTheSameAs 19 = .ok (.if_icmp .ne 54, 3) := by decide +kernel
theorem dX0_cameToTheSameAs_22 : decode cX0_cameToTheSameAs 22 = .ok (.aload_n 0, 1) := by decide +kernel
theorem dX0_cameToTheSameAs_23 : decode cX0_cameToTheSameAs 23 = .ok (.getfield 36, 3) := by decide +kernel
theorem dX0_cameToTheSameAs_26 : decode cX0_cameToTheSameAs 26 = .ok (.aload_n 1, 1) := by decide +kernel
theorem dX0_cameToTheSameAs_27 : decode cX0_cameToTheSameAs 27 = .ok (.getfield 36, 3) := by decide +kernel
theorem dX0_cameToTheSameAs_30 : decode cX0_cameToTheSameAs 30 = .ok (.if_icmp .ne 43, 3) := by decide +kernel
theorem dX0_cameToTheSameAs_33 : decode cX0_cameToTheSameAs 33 = .ok (.aload_n 0, 1) := by decide +kernel
theorem dX0_cameToTheSameAs_34 : decode cX0_cameToTheSameAs 34 = .ok (.invokevirtual 83, 3) := by decide +kernel
theorem dX0_cameToTheSameAs_37 : decode cX0_cameToTheSameAs 37 = .ok (.aload_n 1, 1) := by decide +kernel
theorem dX0_cameToTheSameAs_38 : decode cX0_cameToTheSameAs 38 = .ok (.invokevirtual 83, 3) := by decide +kernel
theorem dX0_cameToTheSameAs_41 : decode cX0_cameToTheSameAs 41 = .ok (.if_icmp .ne 32, 3) := by decide +kernel
theorem dX0_cameToTheSameAs_44 : decode cX0_cameToTheSameAs 44 = .ok (.aload_n 0, 1) := by decide +kernel
theorem dX0_cameToTheSameAs_45 : decode cX0_cameToTheSameAs 45 = .ok (.getfield 39, 3) := by decide +kernel
theorem dX0_cameToTheSameAs_48 : decode cX0_cameToTheSameAs 48 = .ok (.aload_n 1, 1) := by decide +kernel
theorem dX0_cameToTheSameAs_49 : decode cX0_cameToTheSameAs 49 = .ok (.getfield 39, 3) := by decide +kernel
theorem dX0_cameToTheSameAs_52 : decode cX0_cameToTheSameAs 52 = .ok (.if_icmp .ne 21, 3) := by decide +kernel
theorem dX0_cameToTheSameAs_55 : decode cX0_cameToTheSameAs 55 = .ok (.aload_n 0, 1) := by decide +kernel
theorem dX0_cameToTheSameAs_56 : decode cX0_cameToTheSameAs 56 = .ok (.getfield 18, 3) := by decide +kernel
theorem dX0_cameToTheSameAs_59 : decode cX0_cameToTheSameAs 59 = .ok (.aload_n 1, 1) := by decide +kernel
theorem dX0_cameToTheSameAs_60 : decode cX0_cameToTheSameAs 60 = .ok (.getfield 18, 3) := by decide +kernel
theorem dX0_cameToTheSameAs_63 : decode cX0_cameToTheSameAs 63 = .ok (.invokevirtual 87, 3) := by decide +kernel
theorem dX0_cameToTheSameAs_66 : decode cX0_cameToTheSameAs 66 = .ok (.ifCond .eq 7, 3) := by decide +kernel
theorem dX0_cameToTheSameAs_69 : decode cX0_cameToTheSameAs 69 = .ok (.iconst 1, 1) := by decide +kernel
theorem dX0_cameToTheSameAs_70 : decode cX0_cameToTheSameAs 70 = .ok (.goto 4, 3) := by decide +kernel
theorem dX0_cameToTheSameAs_73 : decode cX0_cameToTheSameAs 73 = .ok (.iconst 0, 1) := by decide +kernel
theorem dX0_cameToTheSameAs_74 : decode cX0_cameToTheSameAs 74 = .ok (.ireturn, 1) := by decide +kernel
theorem dX0_enter_0 : decode cX0_enter 0 = .ok (.aload_n 0, 1) := by decide +kernel
theorem dX0_enter_1 : decode cX0_enter 1 = .ok (.getfield 26, 3) := by decide +kernel
theorem dX0_enter_4 : decode cX0_enter 4 = .ok (.bipush 6, 2) := by decide +kernel
theorem dX0_enter_6 : decode cX0_enter 6 = .ok (.if_icmp .ge 61, 3) := by decide +kernel
theorem dX0_enter_9 : decode cX0_enter 9 = .ok (.aload_n 0, 1) := by decide +kernel
theorem dX0_enter_10 : decode cX0_enter 10 = .ok (.getfield 9, 3) := by decide +kernel
theorem dX0_enter_13 : decode cX0_enter 13 = .ok (.aload_n 0, 1) := by decide +kernel
theorem dX0_enter_14 : decode cX0_enter 14 = .ok (.getfield 26, 3) := by decide +kernel
theorem dX0_enter_17 : decode cX0_enter 17 = .ok (.iload_n 1, 1) := by decide +kernel
theorem dX0_enter_18 : decode cX0_enter 18 = .ok (.iastore, 1) := by decide +kernel
theorem dX0_enter_19 : decode cX0_enter 19 = .ok (.aload_n 0, 1) := by decide +kernel
theorem dX0_enter_20 : decode cX0_enter 20 = .ok (.getfield 15, 3) := by decide +kernel
theorem dX0_enter_23 : decode cX0_enter 23 = .ok (.aload_n 0, 1) := by decide +kernel
theorem dX0_enter_24 : decode cX0_enter 24 = .ok (.getfield 26, 3) := by decide +kernel
theorem dX0_enter_27 : decode cX0_enter 27 = .ok (.iload_n 2, 1) := by decide +kernel
theorem dX0_enter_28 : decode cX0_enter 28 = .ok (.iastore, 1) := by decide +kernel
theorem dX0_enter_29 : decode cX0_enter 29 = .ok (.aload_n 0, 1) := by decide +kernel
theorem dX0_enter_30 : decode cX0_enter 30 = .ok (.dup, 1) := by decide +kernel
theorem dX0_enter_31 : decode cX0_enter 31 = .ok (.getfield 26, 3) := by decide +kernel
theorem dX0_enter_34 : decode cX0_enter 34 = .ok (.iconst 1, 1) := by decide +kernel
theorem dX0_enter_35 : decode cX0_enter 35 = .ok (.iadd, 1) := by decide +kernel
theorem dX0_enter_36 : decode cX0_enter 36 = .ok (.putfield 26, 3) := by decide +kernel
theorem dX0_enter_39 : decode cX0_enter 39 = .ok (.aload_n 0, 1) := by decide +kernel
theorem dX0_enter_40 : decode cX0_enter 40 = .ok (.aload_n 0, 1) := by decide +kernel
theorem dX0_enter_41 : decode cX0_enter 41 = .ok (.getfield 30, 3) := by decide +kernel
theorem dX0_enter_44 : decode cX0_enter 44 = .ok (.aload_n 0, 1) := by decide +kernel
theorem dX0_enter_45 : decode cX0_enter 45 = .ok (.getfield 26, 3) := by decide +kernel
theorem dX0_enter_48 : decode cX0_enter 48 = .ok (.invokestatic 91, 3) := by decide +kernel
theorem dX0_enter_51 : decode cX0_enter 51 = .ok (.putfield 30, 3) := by decide +kernel
theorem dX0_enter_54 : decode cX0_enter 54 = .ok (.aload_n 0, 1) := by decide +kernel
theorem dX0_enter_55 : decode cX0_enter 55 = .ok (.aload_n 0, 1) := by decide +kernel
theorem dX0_enter_56 : decode cX0_enter 56 = .ok (.getfield 22, 3) := by decide +kernel
theorem dX0_enter_59 : decode cX0_enter 59 = .ok (.iload_n 1, 1) := by decide +kernel
theorem dX0_enter_60 : decode cX0_enter 60 = .ok (.aaload, 1) := by decide +kernel
theorem dX0_enter_61 : decode cX0_enter 61 = .ok (.getfield 97, 3) := by decide +kernel
theorem dX0_enter_64 : decode cX0_enter 64 = .ok (.putfield 39, 3) := by decide +kernel
theorem dX0_enter_67 : decode cX0_enter 67 = .ok (.return_, 1) := by decide +kernel
theorem dX0_step_0 : decode cX0_step 0 = .ok (.aload_n 0, 1) := by decide +kernel
theorem dX0_step_1 : decode cX0_step 1 = .ok (.invokevirtual 100, 3) := by decide +kernel
theorem dX0_step_4 : decode cX0_step 4 = .ok (.istore_n 2, 1) := by decide +kernel
theorem dX0_step_5 : decode cX0_step 5 = .ok (.iload_n 2, 1) := by decide +kernel
theorem dX0_step_6 : decode cX0_step 6 = .ok (.ifCond .ne 41, 3) := by decide +kernel
theorem dX0_step_9 : decode cX0_step 9 = .ok (.aload_n 0, 1) := by decide +kernel
theorem dX0_step_10 : decode cX0_step 10 = .ok (.aload_n 0, 1) := by decide +kernel
theorem dX0_step_11 : decode cX0_step 11 = .ok (.getfield 18, 3) := by decide +kernel
theorem dX0_step_14 : decode cX0_step 14 = .ok (.getfield 104, 3) := by decide +kernel
theorem dX0_step_17 : decode cX0_step 17 = .ok (.aload_n 0, 1) := by decide +kernel
theorem dX0_step_18 : decode cX0_step 18 = .ok (.getfield 39, 3) := by decide +kernel
theorem dX0_step_21 : decode cX0_step 21 = .ok (.iaload, 1) := by decide +kernel
theorem dX0_step_22 : decode cX0_step 22 = .ok (.putfield 107, 3) := by decide +kernel
theorem dX0_step_25 : decode cX0_step 25 = .ok (.aload_n 0, 1) := by decide +kernel
theorem dX0_step_26 : decode cX0_step 26 = .ok (.aload_n 0, 1) := by decide +kernel
theorem dX0_step_27 : decode cX0_step 27 = .ok (.getfield 18, 3) := by decide +kernel
theorem dX0_step_30 : decode cX0_step 30 = .ok (.getfield 104, 3) := by decide +kernel
theorem dX0_step_33 : decode cX0_step 33 = .ok (.aload_n 0, 1) := by decide +kernel
theorem dX0_step_34 : decode cX0_step 34 = .ok (.getfield 39, 3) := by decide +kernel
theorem dX0_step_37 : decode cX0_step 37 = .ok (.iconst 1, 1) := by decide +kernel
theorem dX0_step_38 : decode cX0_step 38 = .ok (.iadd, 1) := by decide +kernel
theorem dX0_step_39 : decode cX0_step 39 = .ok (.sipush 255, 3) := by decide +kernel
theorem dX0_step_42 : decode cX0_step 42 = .ok (.iand, 1) := by decide +kernel
theorem dX0_step_43 : decode cX0_step 43 = .ok (.iaload, 1) := by decide +kernel
theorem dX0_step_44 : decode cX0_step 44 = .ok (.putfield 110, 3) := by decide +kernel
theorem dX0_step_47 : decode cX0_step 47 = .ok (.aload_n 0, 1) := by decide +kernel
theorem dX0_step_48 : decode cX0_step 48 = .ok (.getfield 107, 3) := by decide +kernel
theorem dX0_step_51 : decode cX0_step 51 = .ok (.invokestatic 113, 3) := by decide +kernel
theorem dX0_step_54 : decode cX0_step 54 = .ok (.ifCond .ne 9, 3) := by decide +kernel
theorem dX0_step_57 : decode cX0_step 57 = .ok (.aload_n 0, 1) := by decide +kernel
theorem dX0_step_58 : decode cX0_step 58 = .ok (.iconst (-1), 1) := by decide +kernel
theorem dX0_step_59 : decode cX0_step 59 = .ok (.putfield 54, 3) := by decide +kernel
theorem dX0_step_62 : decode cX0_step 62 = .ok (.return_, 1) := by decide +kernel
theorem dX0_step_63 : decode cX0_step 63 = .ok (.iload_n 2, 1) := by decide +kernel
theorem dX0_step_64 : decode cX0_step 64 = .ok (.ifCond .eq 16, 3) := by decide +kernel
theorem dX0_step_67 : decode cX0_step 67 = .ok (.aload_n 0, 1) := by decide +kernel
theorem dX0_step_68 : decode cX0_step 68 = .ok (.dup, 1) := by decide +kernel
theorem dX0_step_69 : decode cX0_step 69 = .ok (.getfield 42, 3) := by decide +kernel
theorem dX0_step_72 : decode cX0_step 72 = .ok (.iconst 1, 1) := by decide +kernel
theorem dX0_step_73 : decode cX0_step 73 = .ok (.iadd, 1) := by decide +kernel
theorem dX0_step_74 : decode cX0_step 74 = .ok (.putfield 42, 3) := by decide +kernel
theorem dX0_step_77 : decode cX0_step 77 = .ok (.goto 13, 3) := by decide +kernel
theorem dX0_step_80 : decode cX0_step 80 = .ok (.aload_n 0, 1) := by decide +kernel
theorem dX0_step_81 : decode cX0_step 81 = .ok (.dup, 1) := by decide +kernel
theorem dX0_step_82 : decode cX0_step 82 = .ok (.getfield 45, 3) := by decide +kernel
theorem dX0_step_85 : decode cX0_step 85 = .ok (.iconst 1, 1) := by decide +kernel
theorem dX0_step_86 : decode cX0_step 86 = .ok (.iadd, 1) := by decide +kernel
theorem dX0_step_87 : decode cX0_step 87 = .ok (.putfield 45, 3) := by decide +kernel
theorem dX0_step_90 : decode cX0_step 90 = .ok (.aload_n 0, 1) := by decide +kernel
theorem dX0_step_91 : decode cX0_step 91 = .ok (.getfield 39, 3) := by decide +kernel
theorem dX0_step_94 : decode cX0_step 94 = .ok (.aload_n 0, 1) := by decide +kernel
theorem dX0_step_95 : decode cX0_step 95 = .ok (.getfield 107, 3) := by decide +kernel
theorem dX0_step_98 : decode cX0_step 98 = .ok (.invokestatic 117, 3) := by decide +kernel
theorem dX0_step_101 : decode cX0_step 101 = .ok (.iadd, 1) := by decide +kernel
theorem dX0_step_102 : decode cX0_step 102 = .ok (.sipush 255, 3) := by decide +kernel
theorem dX0_step_105 : decode cX0_step 105 = .ok (.iand, 1) := by decide +kernel
theorem dX0_step_106 : decode cX0_step 106 = .ok (.istore_n 3, 1) := by decide +kernel
theorem dX0_step_107 : decode cX0_step 107 = .ok (.aload_n 0, 1) := by decide +kernel
theorem dX0_step_108 : decode cX0_step 108 = .ok (.getfield 107, 3) := by decide +kernel
theorem dX0_step_111 : decode cX0_step 111 = .ok (.ifCond .ne 10, 3) := by decide +kernel
theorem dX0_step_114 : decode cX0_step 114 = .ok (.aload_n 0, 1) := by decide +kernel
theorem dX0_step_115 : decode cX0_step 115 = .ok (.invokevirtual 120, 3) := by decide +kernel
theorem dX0_step_118 : decode cX0_step 118 = .ok (.goto 69, 3) := by decide +kernel
theorem dX0_step_121 : decode cX0_step 121 = .ok (.aload_n 0, 1) := by decide +kernel
theorem dX0_step_122 : decode cX0_step 122 = .ok (.getfield 107, 3) := by decide +kernel
theorem dX0_step_125 : decode cX0_step 125 = .ok (.bipush 9, 2) := by decide +kernel
theorem dX0_step_127 : decode cX0_step 127 = .ok (.if_icmp .ne 12, 3) := by decide +kernel
theorem dX0_step_130 : decode cX0_step 130 = .ok (.aload_n 0, 1) := by decide +kernel
theorem dX0_step_131 : decode cX0_step 131 = .ok (.iload_n 3, 1) := by decide +kernel
theorem dX0_step_132 : decode cX0_step 132 = .ok (.iload_n 1, 1) := by decide +kernel
theorem dX0_step_133 : decode cX0_step 133 = .ok (.invokevirtual 123, 3) := by decide +kernel
theorem dX0_step_136 : decode cX0_step 136 = .ok (.goto 51, 3) := by decide +kernel
theorem dX0_step_139 : decode cX0_step 139 = .ok (.aload_n 0, 1) := by decide +kernel
theorem dX0_step_140 : decode cX0_step 140 = .ok (.getfield 107, 3) := by decide +kernel
theorem dX0_step_143 : decode cX0_step 143 = .ok (.invokestatic 126, 3) := by decide +kernel
theorem dX0_step_146 : decode cX0_step 146 = .ok (.ifCond .eq 32, 3) := by decide +kernel
theorem dX0_step_149 : decode cX0_step 149 = .ok (.aload_n 0, 1) := by decide +kernel
theorem dX0_step_150 : decode cX0_step 150 = .ok (.aload_n 0, 1) := by decide +kernel
theorem dX0_step_151 : decode cX0_step 151 = .ok (.invokevirtual 129, 3) := by decide +kernel
theorem dX0_step_154 : decode cX0_step 154 = .ok (.ifCond .eq 17, 3) := by decide +kernel
theorem dX0_step_157 : decode cX0_step 157 = .ok (.iload_n 3, 1) := by decide +kernel
theorem dX0_step_158 : decode cX0_step 158 = .ok (.aload_n 0, 1) := by decide +kernel
theorem dX0_step_159 : decode cX0_step 159 = .ok (.getfield 110, 3) := by decide +kernel
theorem dX0_step_162 : decode cX0_step 162 = .ok (.i2b, 1) := by decide +kernel
theorem dX0_step_163 : decode cX0_step 163 = .ok (.iadd, 1) := by decide +kernel
theorem dX0_step_164 : decode cX0_step 164 = .ok (.sipush 255, 3) := by decide +kernel
theorem dX0_step_167 : decode cX0_step 167 = .ok (.iand, 1) := by decide +kernel
theorem dX0_step_168 : decode cX0_step 168 = .ok (.goto 4, 3) := by decide +kernel
theorem dX0_step_171 : decode cX0_step 171 = .ok (.iload_n 3, 1) := by decide +kernel
theorem dX0_step_172 : decode cX0_step 172 = .ok (.putfield 39, 3) := by decide +kernel
theorem dX0_step_175 : decode cX0_step 175 = .ok (.goto 12, 3) := by decide +kernel
theorem dX0_step_178 : decode cX0_step 178 = .ok (.aload_n 0, 1) := by decide +kernel
theorem dX0_step_179 : decode cX0_step 179 = .ok (.invokevirtual 132, 3) := by decide +kernel
theorem dX0_step_182 : decode cX0_step 182 = .ok (.aload_n 0, 1) := by decide +kernel
theorem dX0_step_183 : decode cX0_step 183 = .ok (.iload_n 3, 1) := by decide +kernel
theorem dX0_step_184 : decode cX0_step 184 = .ok (.putfield 39, 3) := by decide +kernel
theorem dX0_step_187 : decode cX0_step 187 = .ok (.return_, 1) := by decide +kernel
theorem dX0_fetchFromMember_0 : decode cX0_fetchFromMember 0 = .ok (.aload_n 0, 1) := by decide +kernel
theorem dX0_fetchFromMember_1 : decode cX0_fetchFromMember 1 = .ok (.getfield 26, 3) := by decide +kernel
theorem dX0_fetchFromMember_4 : decode cX0_fetchFromMember 4 = .ok (.iconst 1, 1) := by decide +kernel
theorem dX0_fetchFromMember_5 : decode cX0_fetchFromMember 5 = .ok (.if_icmp .lt 24, 3) := by decide +kernel
theorem dX0_fetchFromMember_8 : decode cX0_fetchFromMember 8 = .ok (.aload_n 0, 1) := by decide +kernel
theorem dX0_fetchFromMember_9 : decode cX0_fetchFromMember 9 = .ok (.getfield 18, 3) := by decide +kernel
theorem dX0_fetchFromMember_12 : decode cX0_fetchFromMember 12 = .ok (.aload_n 0, 1) := by decide +kernel
theorem dX0_fetchFromMember_13 : decode cX0_fetchFromMember 13 = .ok (.getfield 9, 3) := by decide +kernel
theorem dX0_fetchFromMember_16 : decode cX0_fetchFromMember 16 = .ok (.aload_n 0, 1) := by decide +kernel
theorem dX0_fetchFromMember_17 : decode cX0_fetchFromMember 17 = .ok (.getfield 26, 3) := by decide +kernel
theorem dX0_fetchFromMember_20 : decode cX0_fetchFromMember 20 = .ok (.iconst 1, 1) := by decide +kernel
theorem dX0_fetchFromMember_21 : decode cX0_fetchFromMember 21 = .ok (.isub, 1) := by decide +kernel
theorem dX0_fetchFromMember_22 : decode cX0_fetchFromMember 22 = .ok (.iaload, 1) := by decide +kernel
theorem dX0_fetchFromMember_23 : decode cX0_fetchFromMember 23 = .ok (.invokevirtual 135, 3) := by decide +kernel
theorem dX0_fetchFromMember_26 : decode cX0_fetchFromMember 26 = .ok (.ifCond .ne 5, 3) := by decide +kernel
theorem dX0_fetchFromMember_29 : decode cX0_fetchFromMember 29 = .ok (.iconst 0, 1) := by decide +kernel
theorem dX0_fetchFromMember_30 : decode cX0_fetchFromMember 30 = .ok (.ireturn, 1) := by decide +kernel
theorem dX0_fetchFromMember_31 : decode cX0_fetchFromMember 31 = .ok (.aload_n 0, 1) := by decide +kernel
theorem dX0_fetchFromMember_32 : decode cX0_fetchFromMember 32 = .ok (.getfield 22, 3) := by decide +kernel
theorem dX0_fetchFromMember_35 : decode cX0_fetchFromMember 35 = .ok (.aload_n 0, 1) := by decide +kernel
theorem dX0_fetchFromMember_36 : decode cX0_fetchFromMember 36 = .ok (.getfield 9, 3) := by decide +kernel
theorem dX0_fetchFromMember_39 : decode cX0_fetchFromMember 39 = .ok (.aload_n 0, 1) := by decide +kernel
theorem dX0_fetchFromMember_40 : decode cX0_fetchFromMember 40 = .ok (.getfield 26, 3) := by decide +kernel
theorem dX0_fetchFromMember_43 : decode cX0_fetchFromMember 43 = .ok (.iconst 1, 1) := by decide +kernel
theorem dX0_fetchFromMember_44 : decode cX0_fetchFromMember 44 = .ok (.isub, 1) := by decide +kernel
theorem dX0_fetchFromMember_45 : decode cX0_fetchFromMember 45 = .ok (.iaload, 1) := by decide +kernel
theorem dX0_fetchFromMember_46 : decode cX0_fetchFromMember 46 = .ok (.aaload, 1) := by decide +kernel
theorem dX0_fetchFromMember_47 : decode cX0_fetchFromMember 47 = .ok (.getfield 138, 3) := by decide +kernel
theorem dX0_fetchFromMember_50 : decode cX0_fetchFromMember 50 = .ok (.astore_n 1, 1) := by decide +kernel
theorem dX0_fetchFromMember_51 : decode cX0_fetchFromMember 51 = .ok (.aload_n 1, 1) := by decide +kernel
theorem dX0_fetchFromMember_52 : decode cX0_fetchFromMember 52 = .ok (.aload_n 0, 1) := by decide +kernel
theorem dX0_fetchFromMember_53 : decode cX0_fetchFromMember 53 = .ok (.getfield 39, 3) := by decide +kernel
theorem dX0_fetchFromMember_56 : decode cX0_fetchFromMember 56 = .ok (.invokevirtual 142, 3) := by decide +kernel
theorem dX0_fetchFromMember_59 : decode cX0_fetchFromMember 59 = .ok (.istore_n 2, 1) := by decide +kernel
theorem dX0_fetchFromMember_60 : decode cX0_fetchFromMember 60 = .ok (.iload_n 2, 1) := by decide +kernel
theorem dX0_fetchFromMember_61 : decode cX0_fetchFromMember 61 = .ok (.ifCond .ge 5, 3) := by decide +kernel
theorem dX0_fetchFromMember_64 : decode cX0_fetchFromMember 64 = .ok (.iconst 0, 1) := by decide +kernel
theorem dX0_fetchFromMember_65 : decode cX0_fetchFromMember 65 = .ok (.ireturn, 1) := by decide +kernel
theorem dX0_fetchFromMember_66 : decode cX0_fetchFromMember 66 = .ok (.aload_n 0, 1) := by decide +kernel
theorem dX0_fetchFromMember_67 : decode cX0_fetchFromMember 67 = .ok (.aload_n 1, 1) := by decide +kernel
theorem dX0_fetchFromMember_68 : decode cX0_fetchFromMember 68 = .ok (.getfield 147, 3) := by decide +kernel
theorem dX0_fetchFromMember_71 : decode cX0_fetchFromMember 71 = .ok (.iload_n 2, 1) := by decide +kernel
theorem dX0_fetchFromMember_72 : decode cX0_fetchFromMember 72 = .ok (.iaload, 1) := by decide +kernel
theorem dX0_fetchFromMember_73 : decode cX0_fetchFromMember 73 = .ok (.putfield 107, 3) := by decide +kernel
theorem dX0_fetchFromMember_76 : decode cX0_fetchFromMember 76 = .ok (.aload_n 0, 1) := by decide +kernel
theorem dX0_fetchFromMember_77 : decode cX0_fetchFromMember 77 = .ok (.aload_n 1, 1) := by decide +kernel
theorem dX0_fetchFromMember_78 : decode cX0_fetchFromMember 78 = .ok (.getfield 150, 3) := by decide +kernel
theorem dX0_fetchFromMember_81 : decode cX0_fetchFromMember 81 = .ok (.iload_n 2, 1) := by decide +kernel
theorem dX0_fetchFromMember_82 : decode cX0_fetchFromMember 82 = .ok (.iaload, 1) := by decide +kernel
theorem dX0_fetchFromMember_83 : decode cX0_fetchFromMember 83 = .ok (.putfield 110, 3) := by decide +kernel
theorem dX0_fetchFromMember_86 : decode cX0_fetchFromMember 86 = .ok (.iconst 1, 1) := by decide +kernel
theorem dX0_fetchFromMember_87 : decode cX0_fetchFromMember 87 = .ok (.ireturn, 1) := by decide +kernel
theorem dX0_leave_0 : decode cX0_leave 0 = .ok (.aload_n 0, 1) := by decide +kernel
theorem dX0_leave_1 : decode cX0_leave 1 = .ok (.getfield 26, 3) := by decide +kernel
theorem dX0_leave_4 : decode cX0_leave 4 = .ok (.iconst 1, 1) := by decide +kernel
theorem dX0_leave_5 : decode cX0_leave 5 = .ok (.if_icmp .gt 9, 3) := by decide +kernel
theorem dX0_leave_8 : decode cX0_leave 8 = .ok (.aload_n 0, 1) := by decide +kernel
theorem dX0_leave_9 : decode cX0_leave 9 = .ok (.iconst 1, 1) := by decide +kernel
theorem dX0_leave_10 : decode cX0_leave 10 = .ok (.putfield 54, 3) := by decide +kernel
theorem dX0_leave_13 : decode cX0_leave 13 = .ok (.return_, 1) := by decide +kernel
theorem dX0_leave_14 : decode cX0_leave 14 = .ok (.aload_n 0, 1) := by decide +kernel
theorem dX0_leave_15 : decode cX0_leave 15 = .ok (.dup, 1) := by decide +kernel
theorem dX0_leave_16 : decode cX0_leave 16 = .ok (.getfield 26, 3) := by decide +kernel
theorem dX0_leave_19 : decode cX0_leave 19 = .ok (.iconst 1, 1) := by decide +kernel
theorem dX0_leave_20 : decode cX0_leave 20 = .ok (.isub, 1) := by decide +kernel
theorem dX0_leave_21 : decode cX0_leave 21 = .ok (.putfield 26, 3) := by decide +kernel
theorem dX0_leave_24 : decode cX0_leave 24 = .ok (.aload_n 0, 1) := by decide +kernel
theorem dX0_leave_25 : decode cX0_leave 25 = .ok (.aload_n 0, 1) := by decide +kernel
theorem dX0_leave_26 : decode cX0_leave 26 = .ok (.getfield 15, 3) := by decide +kernel
theorem dX0_leave_29 : decode cX0_leave 29 = .ok (.aload_n 0, 1) := by decide +kernel
theorem dX0_leave_30 : decode cX0_leave 30 = .ok (.getfield 26, 3) := by decide +kernel
theorem dX0_leave_33 : decode cX0_leave 33 = .ok (.iaload, 1) := by decide +kernel
theorem dX0_leave_34 : decode cX0_leave 34 = .ok (.putfield 39, 3) := by decide +kernel
theorem dX0_leave_37 : decode cX0_leave 37 = .ok (.return_, 1) := by decide +kernel
theorem dX0_enterCalled_0 : decode cX0_enterCalled 0 = .ok (.aload_n 0, 1) := by decide +kernel
theorem dX0_enterCalled_1 : decode cX0_enterCalled 1 = .ok (.getfield 26, 3) := by decide +kernel
theorem dX0_enterCalled_4 : decode cX0_enterCalled 4 = .ok (.bipush 6, 2) := by decide +kernel
theorem dX0_enterCalled_6 : decode cX0_enterCalled 6 = .ok (.if_icmp .lt 12, 3) := by decide +kernel
theorem dX0_enterCalled_9 : decode cX0_enterCalled 9 = .ok (.aload_n 0, 1) := by decide +kernel
theorem dX0_enterCalled_10 : decode cX0_enterCalled 10 = .ok (.bipush (-3), 2) := by decide +kernel
theorem dX0_enterCalled_12 : decode cX0_enterCalled 12 = .ok (.putfield 54, 3) := by decide +kernel
theorem dX0_enterCalled_15 : decode cX0_enterCalled 15 = .ok (.goto 29, 3) := by decide +kernel
theorem dX0_enterCalled_18 : decode cX0_enterCalled 18 = .ok (.aload_n 0, 1) := by decide +kernel
theorem dX0_enterCalled_19 : decode cX0_enterCalled 19 = .ok (.getfield 110, 3) := by decide +kernel
theorem dX0_enterCalled_22 : decode cX0_enterCalled 22 = .ok (.iload_n 2, 1) := by decide +kernel
theorem dX0_enterCalled_23 : decode cX0_enterCalled 23 = .ok (.if_icmp .lt 12, 3) := by decide +kernel
theorem dX0_enterCalled_26 : decode cX0_enterCalled 26 = .ok (.aload_n 0, 1) := by decide +kernel
theorem dX0_enterCalled_27 : decode cX0_enterCalled 27 = .ok (.bipush (-2), 2) := by decide +kernel
theorem dX0_enterCalled_29 : decode cX0_enterCalled 29 = .ok (.putfield 54, 3) := by decide +kernel
theorem dX0_enterCalled_32 : decode cX0_enterCalled 32 = .ok (.goto 12, 3) := by decide +kernel
theorem dX0_enterCalled_35 : decode cX0_enterCalled 35 = .ok (.aload_n 0, 1) := by decide +kernel
theorem dX0_enterCalled_36 : decode cX0_enterCalled 36 = .ok (.aload_n 0, 1) := by decide +kernel
theorem dX0_enterCalled_37 : decode cX0_enterCalled 37 = .ok (.getfield 110, 3) := by decide +kernel
theorem dX0_enterCalled_40 : decode cX0_enterCalled 40 = .ok (.iload_n 1, 1) := by decide +kernel
theorem dX0_enterCalled_41 : decode cX0_enterCalled 41 = .ok (.invokevirtual 60, 3) := by decide +kernel
theorem dX0_enterCalled_44 : decode cX0_enterCalled 44 = .ok (.return_, 1) := by decide +kernel
theorem dX0_goesElsewhere_0 : decode cX0_goesElsewhere 0 = .ok (.aload_n 0, 1) := by decide +kernel
theorem dX0_goesElsewhere_1 : decode cX0_goesElsewhere 1 = .ok (.getfield 107, 3) := by decide +kernel
theorem dX0_goesElsewhere_4 : decode cX0_goesElsewhere 4 = .ok (.bipush 7, 2) := by decide +kernel
theorem dX0_goesElsewhere_6 : decode cX0_goesElsewhere 6 = .ok (.if_icmp .ne 16, 3) := by decide +kernel
theorem dX0_goesElsewhere_9 : decode cX0_goesElsewhere 9 = .ok (.aload_n 0, 1) := by decide +kernel
theorem dX0_goesElsewhere_10 : decode cX0_goesElsewhere 10 = .ok (.getfield 33, 3) := by decide +kernel
theorem dX0_goesElsewhere_13 : decode cX0_goesElsewhere 13 = .ok (.ifCond .ne 7, 3) := by decide +kernel
theorem dX0_goesElsewhere_16 : decode cX0_goesElsewhere 16 = .ok (.iconst 1, 1) := by decide +kernel
theorem dX0_goesElsewhere_17 : decode cX0_goesElsewhere 17 = .ok (.goto 4, 3) := by decide +kernel
theorem dX0_goesElsewhere_20 : decode cX0_goesElsewhere 20 = .ok (.iconst 0, 1) := by decide +kernel
theorem dX0_goesElsewhere_21 : decode cX0_goesElsewhere 21 = .ok (.ireturn, 1) := by decide +kernel
theorem dX0_goesElsewhere_22 : decode cX0_goesElsewhere 22 = .ok (.aload_n 0, 1) := by decide +kernel
theorem dX0_goesElsewhere_23 : decode cX0_goesElsewhere 23 = .ok (.getfield 107, 3) := by decide +kernel
theorem dX0_goesElsewhere_26 : decode cX0_goesElsewhere 26 = .ok (.bipush 8, 2) := by decide +kernel
theorem dX0_goesElsewhere_28 : decode cX0_goesElsewhere 28 = .ok (.if_icmp .ne 26, 3) := by decide +kernel
theorem dX0_goesElsewhere_31 : decode cX0_goesElsewhere 31 = .ok (.aload_n 0, 1) := by decide +kernel
theorem dX0_goesElsewhere_32 : decode cX0_goesElsewhere 32 = .ok (.dup, 1) := by decide +kernel
theorem dX0_goesElsewhere_33 : decode cX0_goesElsewhere 33 = .ok (.getfield 36, 3) := by decide +kernel
theorem dX0_goesElsewhere_36 : decode cX0_goesElsewhere 36 = .ok (.iconst 1, 1) := by decide +kernel
theorem dX0_goesElsewhere_37 : decode cX0_goesElsewhere 37 = .ok (.isub, 1) := by decide +kernel
theorem dX0_goesElsewhere_38 : decode cX0_goesElsewhere 38 = .ok (.putfield 36, 3) := by decide +kernel
theorem dX0_goesElsewhere_41 : decode cX0_goesElsewhere 41 = .ok (.aload_n 0, 1) := by decide +kernel
theorem dX0_goesElsewhere_42 : decode cX0_goesElsewhere 42 = .ok (.getfield 36, 3) := by decide +kernel
theorem dX0_goesElsewhere_45 : decode cX0_goesElsewhere 45 = .ok (.ifCond .eq 7, 3) := by decide +kernel
theorem dX0_goesElsewhere_48 : decode cX0_goesElsewhere 48 = .ok (.iconst 1, 1) := by decide +kernel
theorem dX0_goesElsewhere_49 : decode cX0_goesElsewhere 49 = .ok (.goto 4, 3) := by decide +kernel
theorem dX0_goesElsewhere_52 : decode cX0_goesElsewhere 52 = .ok (.iconst 0, 1) := by decide +kernel
theorem dX0_goesElsewhere_53 : decode cX0_goesElsewhere 53 = .ok (.ireturn, 1) := by decide +kernel
theorem dX0_goesElsewhere_54 : decode cX0_goesElsewhere 54 = .ok (.iconst 1, 1) := by decide +kernel
theorem dX0_goesElsewhere_55 : decode cX0_goesElsewhere 55 = .ok (.ireturn, 1) := by decide +kernel
theorem dX0_swap_0 : decode cX0_swap 0 = .ok (.aload_n 0, 1) := by decide +kernel
theorem dX0_swap_1 : decode cX0_swap 1 = .ok (.getfield 33, 3) := by decide +kernel
theorem dX0_swap_4 : decode cX0_swap 4 = .ok (.istore_n 1, 1) := by decide +kernel
theorem dX0_swap_5 : decode cX0_swap 5 = .ok (.aload_n 0, 1) := by decide +kernel
theorem dX0_swap_6 : decode cX0_swap 6 = .ok (.aload_n 0, 1) := by decide +kernel
theorem dX0_swap_7 : decode cX0_swap 7 = .ok (.getfield 36, 3) := by decide +kernel
theorem dX0_swap_10 : decode cX0_swap 10 = .ok (.putfield 33, 3) := by decide +kernel
theorem dX0_swap_13 : decode cX0_swap 13 = .ok (.aload_n 0, 1) := by decide +kernel
theorem dX0_swap_14 : decode cX0_swap 14 = .ok (.iload_n 1, 1) := by decide +kernel
theorem dX0_swap_15 : decode cX0_swap 15 = .ok (.putfield 36, 3) := by decide +kernel
theorem dX0_swap_18 : decode cX0_swap 18 = .ok (.return_, 1) := by decide +kernel
theorem dX0_doPlainAct_0 : decode cX0_doPlainAct 0 = .ok (.aload_n 0, 1) := by decide +kernel
theorem dX0_doPlainAct_1 : decode cX0_doPlainAct 1 = .ok (.getfield 107, 3) := by decide +kernel
theorem dX0_doPlainAct_4 : decode cX0_doPlainAct 4 = .ok (.tableswitch 202 1 12 #[64, 76, 93, 100, 119, 202, 202, 202, 202, 141, 164, 186], 64) := by decide +kernel
theorem dX0_doPlainAct_68 : decode cX0_doPlainAct 68 = .ok (.aload_n 0, 1) := by decide +kernel
theorem dX0_doPlainAct_69 : decode cX0_doPlainAct 69 = .ok (.aload_n 0, 1) := by decide +kernel
theorem dX0_doPlainAct_70 : decode cX0_doPlainAct 70 = .ok (.getfield 110, 3) := by decide +kernel
theorem dX0_doPlainAct_73 : decode cX0_doPlainAct 73 = .ok (.i2b, 1) := by decide +kernel
theorem dX0_doPlainAct_74 : decode cX0_doPlainAct 74 = .ok (.putfield 33, 3) := by decide +kernel
theorem dX0_doPlainAct_77 : decode cX0_doPlainAct 77 = .ok (.goto 129, 3) := by decide +kernel
theorem dX0_doPlainAct_80 : decode cX0_doPlainAct 80 = .ok (.aload_n 0, 1) := by decide +kernel
theorem dX0_doPlainAct_81 : decode cX0_doPlainAct 81 = .ok (.dup, 1) := by decide +kernel
theorem dX0_doPlainAct_82 : decode cX0_doPlainAct 82 = .ok (.getfield 33, 3) := by decide +kernel
theorem dX0_doPlainAct_85 : decode cX0_doPlainAct 85 = .ok (.aload_n 0, 1) := by decide +kernel
theorem dX0_doPlainAct_86 : decode cX0_doPlainAct 86 = .ok (.getfield 110, 3) := by decide +kernel
theorem dX0_doPlainAct_89 : decode cX0_doPlainAct 89 = .ok (.i2b, 1) := by decide +kernel
theorem dX0_doPlainAct_90 : decode cX0_doPlainAct 90 = .ok (.iadd, 1) := by decide +kernel
theorem dX0_doPlainAct_91 : decode cX0_doPlainAct 91 = .ok (.putfield 33, 3) := by decide +kernel
theorem dX0_doPlainAct_94 : decode cX0_doPlainAct 94 = .ok (.goto 112, 3) := by decide +kernel
theorem dX0_doPlainAct_97 : decode cX0_doPlainAct 97 = .ok (.aload_n 0, 1) := by decide +kernel
theorem dX0_doPlainAct_98 : decode cX0_doPlainAct 98 = .ok (.invokevirtual 153, 3) := by decide +kernel
theorem dX0_doPlainAct_101 : decode cX0_doPlainAct 101 = .ok (.goto 105, 3) := by decide +kernel
theorem dX0_doPlainAct_104 : decode cX0_doPlainAct 104 = .ok (.aload_n 0, 1) := by decide +kernel
theorem dX0_doPlainAct_105 : decode cX0_doPlainAct 105 = .ok (.aload_n 0, 1) := by decide +kernel
theorem dX0_doPlainAct_106 : decode cX0_doPlainAct 106 = .ok (.getfield 18, 3) := by decide +kernel
theorem dX0_doPlainAct_109 : decode cX0_doPlainAct 109 = .ok (.getfield 104, 3) := by decide +kernel
theorem dX0_doPlainAct_112 : decode cX0_doPlainAct 112 = .ok (.aload_n 0, 1) := by decide +kernel
theorem dX0_doPlainAct_113 : decode cX0_doPlainAct 113 = .ok (.getfield 110, 3) := by decide +kernel
theorem dX0_doPlainAct_116 : decode cX0_doPlainAct 116 = .ok (.iaload, 1) := by decide +kernel
theorem dX0_doPlainAct_117 : decode cX0_doPlainAct 117 = .ok (.putfield 33, 3) := by decide +kernel
theorem dX0_doPlainAct_120 : decode cX0_doPlainAct 120 = .ok (.goto 86, 3) := by decide +kernel
theorem dX0_doPlainAct_123 : decode cX0_doPlainAct 123 = .ok (.aload_n 0, 1) := by decide +kernel
theorem dX0_doPlainAct_124 : decode cX0_doPlainAct 124 = .ok (.getfield 18, 3) := by decide +kernel
theorem dX0_doPlainAct_127 : decode cX0_doPlainAct 127 = .ok (.aload_n 0, 1) := by decide +kernel
theorem dX0_doPlainAct_128 : decode cX0_doPlainAct 128 = .ok (.getfield 110, 3) := by decide +kernel
theorem dX0_doPlainAct_131 : decode cX0_doPlainAct 131 = .ok (.aload_n 0, 1) := by decide +kernel
theorem dX0_doPlainAct_132 : decode cX0_doPlainAct 132 = .ok (.getfield 33, 3) := by decide +kernel
theorem dX0_doPlainAct_135 : decode cX0_doPlainAct 135 = .ok (.sipush 255, 3) := by decide +kernel
theorem dX0_doPlainAct_138 : decode cX0_doPlainAct 138 = .ok (.iand, 1) := by decide +kernel
theorem dX0_doPlainAct_139 : decode cX0_doPlainAct 139 = .ok (.invokevirtual 156, 3) := by decide +kernel
theorem dX0_doPlainAct_142 : decode cX0_doPlainAct 142 = .ok (.goto 64, 3) := by decide +kernel
theorem dX0_doPlainAct_145 : decode cX0_doPlainAct 145 = .ok (.aload_n 0, 1) := by decide +kernel
theorem dX0_doPlainAct_146 : decode cX0_doPlainAct 146 = .ok (.aload_n 0, 1) := by decide +kernel
theorem dX0_doPlainAct_147 : decode cX0_doPlainAct 147 = .ok (.getfield 18, 3) := by decide +kernel
theorem dX0_doPlainAct_150 : decode cX0_doPlainAct 150 = .ok (.getfield 104, 3) := by decide +kernel
theorem dX0_doPlainAct_153 : decode cX0_doPlainAct 153 = .ok (.aload_n 0, 1) := by decide +kernel
theorem dX0_doPlainAct_154 : decode cX0_doPlainAct 154 = .ok (.getfield 36, 3) := by decide +kernel
theorem dX0_doPlainAct_157 : decode cX0_doPlainAct 157 = .ok (.sipush 255, 3) := by decide +kernel
theorem dX0_doPlainAct_160 : decode cX0_doPlainAct 160 = .ok (.iand, 1) := by decide +kernel
theorem dX0_doPlainAct_161 : decode cX0_doPlainAct 161 = .ok (.iaload, 1) := by decide +kernel
theorem dX0_doPlainAct_162 : decode cX0_doPlainAct 162 = .ok (.putfield 33, 3) := by decide +kernel
theorem dX0_doPlainAct_165 : decode cX0_doPlainAct 165 = .ok (.goto 41, 3) := by decide +kernel
theorem dX0_doPlainAct_168 : decode cX0_doPlainAct 168 = .ok (.aload_n 0, 1) := by decide +kernel
theorem dX0_doPlainAct_169 : decode cX0_doPlainAct 169 = .ok (.getfield 18, 3) := by decide +kernel
theorem dX0_doPlainAct_172 : decode cX0_doPlainAct 172 = .ok (.aload_n 0, 1) := by decide +kernel
theorem dX0_doPlainAct_173 : decode cX0_doPlainAct 173 = .ok (.getfield 36, 3) := by decide +kernel
theorem dX0_doPlainAct_176 : decode cX0_doPlainAct 176 = .ok (.aload_n 0, 1) := by decide +kernel
theorem dX0_doPlainAct_177 : decode cX0_doPlainAct 177 = .ok (.getfield 33, 3) := by decide +kernel
theorem dX0_doPlainAct_180 : decode cX0_doPlainAct 180 = .ok (.sipush 255, 3) := by decide +kernel
theorem dX0_doPlainAct_183 : decode cX0_doPlainAct 183 = .ok (.iand, 1) := by decide +kernel
theorem dX0_doPlainAct_184 : decode cX0_doPlainAct 184 = .ok (.invokevirtual 156, 3) := by decide +kernel
theorem dX0_doPlainAct_187 : decode cX0_doPlainAct 187 = .ok (.goto 19, 3) := by decide +kernel
theorem dX0_doPlainAct_190 : decode cX0_doPlainAct 190 = .ok (.aload_n 0, 1) := by decide +kernel
theorem dX0_doPlainAct_191 : decode cX0_doPlainAct 191 = .ok (.dup, 1) := by decide +kernel
theorem dX0_doPlainAct_192 : decode cX0_doPlainAct 192 = .ok (.getfield 33, 3) := by decide +kernel
theorem dX0_doPlainAct_195 : decode cX0_doPlainAct 195 = .ok (.aload_n 0, 1) := by decide +kernel
theorem dX0_doPlainAct_196 : decode cX0_doPlainAct 196 = .ok (.getfield 36, 3) := by decide +kernel
theorem dX0_doPlainAct_199 : decode cX0_doPlainAct 199 = .ok (.imul, 1) := by decide +kernel
theorem dX0_doPlainAct_200 : decode cX0_doPlainAct 200 = .ok (.putfield 33, 3) := by decide +kernel
theorem dX0_doPlainAct_203 : decode cX0_doPlainAct 203 = .ok (.goto 3, 3) := by decide +kernel
theorem dX0_doPlainAct_206 : decode cX0_doPlainAct 206 = .ok (.return_, 1) := by decide +kernel
theorem dX1_init_0 : decode cX1_init 0 = .ok (.aload_n 0, 1) := by decide +kernel
theorem dX1_init_1 : decode cX1_init 1 = .ok (.invokespecial 3, 3) := by decide +kernel
theorem dX1_init_4 : decode cX1_init 4 = .ok (.aload_n 0, 1) := by decide +kernel
theorem dX1_init_5 : decode cX1_init 5 = .ok (.sipush 256, 3) := by decide +kernel
theorem dX1_init_8 : decode cX1_init 8 = .ok (.newarray .int, 2) := by decide +kernel
theorem dX1_init_10 : decode cX1_init 10 = .ok (.putfield 9, 3) := by decide +kernel
theorem dX1_init_13 : decode cX1_init 13 = .ok (.aload_n 0, 1) := by decide +kernel
theorem dX1_init_14 : decode cX1_init 14 = .ok (.bipush 16, 2) := by decide +kernel
theorem dX1_init_16 : decode cX1_init 16 = .ok (.newarray .int, 2) := by decide +kernel
theorem dX1_init_18 : decode cX1_init 18 = .ok (.putfield 15, 3) := by decide +kernel
theorem dX1_init_21 : decode cX1_init 21 = .ok (.return_, 1) := by decide +kernel
theorem dX1_mark_0 : decode cX1_mark 0 = .ok (.iconst 1, 1) := by decide +kernel
theorem dX1_mark_1 : decode cX1_mark 1 = .ok (.iload_n 1, 1) := by decide +kernel
theorem dX1_mark_2 : decode cX1_mark 2 = .ok (.ishl, 1) := by decide +kernel
theorem dX1_mark_3 : decode cX1_mark 3 = .ok (.iconst (-1), 1) := by decide +kernel
theorem dX1_mark_4 : decode cX1_mark 4 = .ok (.ixor, 1) := by decide +kernel
theorem dX1_mark_5 : decode cX1_mark 5 = .ok (.istore 4, 2) := by decide +kernel
theorem dX1_mark_7 : decode cX1_mark 7 = .ok (.iload_n 3, 1) := by decide +kernel
theorem dX1_mark_8 : decode cX1_mark 8 = .ok (.ifCond .eq 9, 3) := by decide +kernel
theorem dX1_mark_11 : decode cX1_mark 11 = .ok (.iconst 1, 1) := by decide +kernel
theorem dX1_mark_12 : decode cX1_mark 12 = .ok (.iload_n 1, 1) := by decide +kernel
theorem dX1_mark_13 : decode cX1_mark 13 = .ok (.ishl, 1) := by decide +kernel
theorem dX1_mark_14 : decode cX1_mark 14 = .ok (.goto 4, 3) := by decide +kernel
theorem dX1_mark_17 : decode cX1_mark 17 = .ok (.iconst 0, 1) := by decide +kernel
theorem dX1_mark_18 : decode cX1_mark 18 = .ok (.istore 5, 2) := by decide +kernel
theorem dX1_mark_20 : decode cX1_mark 20 = .ok (.iconst 0, 1) := by decide +kernel
theorem dX1_mark_21 : decode cX1_mark 21 = .ok (.istore 6, 2) := by decide +kernel
theorem dX1_mark_23 : decode cX1_mark 23 = .ok (.iload 6, 2) := by decide +kernel
theorem dX1_mark_25 : decode cX1_mark 25 = .ok (.aload_n 2, 1) := by decide +kernel
theorem dX1_mark_26 : decode cX1_mark 26 = .ok (.getfield 18, 3) := by decide +kernel
theorem dX1_mark_29 : decode cX1_mark 29 = .ok (.if_icmp .ge 95, 3) := by decide +kernel
theorem dX1_mark_32 : decode cX1_mark 32 = .ok (.iconst 0, 1) := by decide +kernel
theorem dX1_mark_33 : decode cX1_mark 33 = .ok (.istore 7, 2) := by decide +kernel
theorem dX1_mark_35 : decode cX1_mark 35 = .ok (.iload 7, 2) := by decide +kernel
theorem dX1_mark_37 : decode cX1_mark 37 = .ok (.aload_n 2, 1) := by decide +kernel
theorem dX1_mark_38 : decode cX1_mark 38 = .ok (.getfield 24, 3) := by decide +kernel
theorem dX1_mark_41 : decode cX1_mark 41 = .ok (.iload 6, 2) := by decide +kernel
theorem dX1_mark_43 : decode cX1_mark 43 = .ok (.iaload, 1) := by decide +kernel
theorem dX1_mark_44 : decode cX1_mark 44 = .ok (.invokestatic 27, 3) := by decide +kernel
theorem dX1_mark_47 : decode cX1_mark 47 = .ok (.if_icmp .ge 71, 3) := by decide +kernel
theorem dX1_mark_50 : decode cX1_mark 50 = .ok (.aload_n 2, 1) := by decide +kernel
theorem dX1_mark_51 : decode cX1_mark 51 = .ok (.getfield 31, 3) := by decide +kernel
theorem dX1_mark_54 : decode cX1_mark 54 = .ok (.iload 6, 2) := by decide +kernel
theorem dX1_mark_56 : decode cX1_mark 56 = .ok (.iaload, 1) := by decide +kernel
theorem dX1_mark_57 : decode cX1_mark 57 = .ok (.iload 7, 2) := by decide +kernel
theorem dX1_mark_59 : decode cX1_mark 59 = .ok (.iadd, 1) := by decide +kernel
theorem dX1_mark_60 : decode cX1_mark 60 = .ok (.sipush 255, 3) := by decide +kernel
theorem dX1_mark_63 : decode cX1_mark 63 = .ok (.iand, 1) := by decide +kernel
theorem dX1_mark_64 : decode cX1_mark 64 = .ok (.istore 8, 2) := by decide +kernel
theorem dX1_mark_66 : decode cX1_mark 66 = .ok (.iload 8, 2) := by decide +kernel
theorem dX1_mark_68 : decode cX1_mark 68 = .ok (.iconst 4, 1) := by decide +kernel
theorem dX1_mark_69 : decode cX1_mark 69 = .ok (.ishr, 1) := by decide +kernel
theorem dX1_mark_70 : decode cX1_mark 70 = .ok (.istore 9, 2) := by decide +kernel
theorem dX1_mark_72 : decode cX1_mark 72 = .ok (.aload_n 0, 1) := by decide +kernel
theorem dX1_mark_73 : decode cX1_mark 73 = .ok (.getfield 9, 3) := by decide +kernel
theorem dX1_mark_76 : decode cX1_mark 76 = .ok (.iload 8, 2) := by decide +kernel
theorem dX1_mark_78 : decode cX1_mark 78 = .ok (.aload_n 0, 1) := by decide +kernel
theorem dX1_mark_79 : decode cX1_mark 79 = .ok (.getfield 9, 3) := by decide +kernel
theorem dX1_mark_82 : decode cX1_mark 82 = .ok (.iload 8, 2) := by decide +kernel
theorem dX1_mark_84 : decode cX1_mark 84 = .ok (.iaload, 1) := by decide +kernel
theorem dX1_mark_85 : decode cX1_mark 85 = .ok (.iload 4, 2) := by decide +kernel
theorem dX1_mark_87 : decode cX1_mark 87 = .ok (.iand, 1) := by decide +kernel
theorem dX1_mark_88 : decode cX1_mark 88 = .ok (.iload 5, 2) := by decide +kernel
theorem dX1_mark_90 : decode cX1_mark 90 = .ok (.ior, 1) := by decide +kernel
theorem dX1_mark_91 : decode cX1_mark 91 = .ok (.iastore, 1) := by decide +kernel
theorem dX1_mark_92 : decode cX1_mark 92 = .ok (.aload_n 0, 1) := by decide +kernel
theorem dX1_mark_93 : decode cX1_mark 93 = .ok (.getfield 15, 3) := by decide +kernel
theorem dX1_mark_96 : decode cX1_mark 96 = .ok (.iload 9, 2) := by decide +kernel
theorem dX1_mark_98 : decode cX1_mark 98 = .ok (.aload_n 0, 1) := by decide +kernel
theorem dX1_mark_99 : decode cX1_mark 99 = .ok (.getfield 15, 3) := by decide +kernel
theorem dX1_mark_102 : decode cX1_mark 102 = .ok (.iload 9, 2) := by decide +kernel
theorem dX1_mark_104 : decode cX1_mark 104 = .ok (.iaload, 1) := by decide +kernel
theorem dX1_mark_105 : decode cX1_mark 105 = .ok (.iload 4, 2) := by decide +kernel
theorem dX1_mark_107 : decode cX1_mark 107 = .ok (.iand, 1) := by decide +kernel
theorem dX1_mark_108 : decode cX1_mark 108 = .ok (.iload 5, 2) := by decide +kernel
theorem dX1_mark_110 : decode cX1_mark 110 = .ok (.ior, 1) := by decide +kernel
theorem dX1_mark_111 : decode cX1_mark 111 = .ok (.iastore, 1) := by decide +kernel
theorem dX1_mark_112 : decode cX1_mark 112 = .ok (.iinc 7 1, 3) := by decide +kernel
theorem dX1_mark_115 : decode cX1_mark 115 = .ok (.goto (-80), 3) := by decide +kernel
theorem dX1_mark_118 : decode cX1_mark 118 = .ok (.iinc 6 1, 3) := by decide +kernel
theorem dX1_mark_121 : decode cX1_mark 121 = .ok (.goto (-98), 3) := by decide +kernel
theorem dX1_mark_124 : decode cX1_mark 124 = .ok (.return_, 1) := by decide +kernel
theorem dX1_empty_0 : decode cX1_empty 0 = .ok (.aload_n 0, 1) := by decide +kernel
theorem dX1_empty_1 : decode cX1_empty 1 = .ok (.getfield 9, 3) := by decide +kernel
theorem dX1_empty_4 : decode cX1_empty 4 = .ok (.iconst 0, 1) := by decide +kernel
theorem dX1_empty_5 : decode cX1_empty 5 = .ok (.invokestatic 34, 3) := by decide +kernel
theorem dX1_empty_8 : decode cX1_empty 8 = .ok (.aload_n 0, 1) := by decide +kernel
theorem dX1_empty_9 : decode cX1_empty 9 = .ok (.getfield 15, 3) := by decide +kernel
theorem dX1_empty_12 : decode cX1_empty 12 = .ok (.iconst 0, 1) := by decide +kernel
theorem dX1_empty_13 : decode cX1_empty 13 = .ok (.invokestatic 34, 3) := by decide +kernel
theorem dX1_empty_16 : decode cX1_empty 16 = .ok (.return_, 1) := by decide +kernel
theorem dX2_init_0 : decode cX2_init 0 = .ok (.aload_n 0, 1) := by decide +kernel
theorem dX2_init_1 : decode cX2_init 1 = .ok (.invokespecial 3, 3) := by decide +kernel
theorem dX2_init_4 : decode cX2_init 4 = .ok (.aload_n 0, 1) := by decide +kernel
theorem dX2_init_5 : decode cX2_init 5 = .ok (.bipush 9, 2) := by decide +kernel
theorem dX2_init_7 : decode cX2_init 7 = .ok (.sipush 256, 3) := by decide +kernel
theorem dX2_init_10 : decode cX2_init 10 = .ok (.multianewarray 11 2, 4) := by decide +kernel
theorem dX2_init_14 : decode cX2_init 14 = .ok (.putfield 13, 3) := by decide +kernel
theorem dX2_init_17 : decode cX2_init 17 = .ok (.return_, 1) := by decide +kernel
theorem dX2_note_0 : decode cX2_note 0 = .ok (.aload_n 1, 1) := by decide +kernel
theorem dX2_note_1 : decode cX2_note 1 = .ok (.iconst 0, 1) := by decide +kernel
theorem dX2_note_2 : decode cX2_note 2 = .ok (.aload_n 0, 1) := by decide +kernel
theorem dX2_note_3 : decode cX2_note 3 = .ok (.getfield 13, 3) := by decide +kernel
theorem dX2_note_6 : decode cX2_note 6 = .ok (.aload_n 0, 1) := by decide +kernel
theorem dX2_note_7 : decode cX2_note 7 = .ok (.getfield 16, 3) := by decide +kernel
theorem dX2_note_10 : decode cX2_note 10 = .ok (.aload_n 0, 1) := by decide +kernel
theorem dX2_note_11 : decode cX2_note 11 = .ok (.getfield 20, 3) := by decide +kernel
theorem dX2_note_14 : decode cX2_note 14 = .ok (.iadd, 1) := by decide +kernel
theorem dX2_note_15 : decode cX2_note 15 = .ok (.bipush 9, 2) := by decide +kernel
theorem dX2_note_17 : decode cX2_note 17 = .ok (.irem, 1) := by decide +kernel
theorem dX2_note_18 : decode cX2_note 18 = .ok (.aaload, 1) := by decide +kernel
theorem dX2_note_19 : decode cX2_note 19 = .ok (.iconst 0, 1) := by decide +kernel
theorem dX2_note_20 : decode cX2_note 20 = .ok (.sipush 256, 3) := by decide +kernel
theorem dX2_note_23 : decode cX2_note 23 = .ok (.invokestatic 23, 3) := by decide +kernel
theorem dX2_note_26 : decode cX2_note 26 = .ok (.return_, 1) := by decide +kernel
theorem dX2_keepNoted_0 : decode cX2_keepNoted 0 = .ok (.aload_n 0, 1) := by decide +kernel
theorem dX2_keepNoted_1 : decode cX2_keepNoted 1 = .ok (.getfield 20, 3) := by decide +kernel
theorem dX2_keepNoted_4 : decode cX2_keepNoted 4 = .ok (.bipush 8, 2) := by decide +kernel
theorem dX2_keepNoted_6 : decode cX2_keepNoted 6 = .ok (.if_icmp .ge 16, 3) := by decide +kernel
theorem dX2_keepNoted_9 : decode cX2_keepNoted 9 = .ok (.aload_n 0, 1) := by decide +kernel
theorem dX2_keepNoted_10 : decode cX2_keepNoted 10 = .ok (.dup, 1) := by decide +kernel
theorem dX2_keepNoted_11 : decode cX2_keepNoted 11 = .ok (.getfield 20, 3) := by decide +kernel
theorem dX2_keepNoted_14 : decode cX2_keepNoted 14 = .ok (.iconst 1, 1) := by decide +kernel
theorem dX2_keepNoted_15 : decode cX2_keepNoted 15 = .ok (.iadd, 1) := by decide +kernel
theorem dX2_keepNoted_16 : decode cX2_keepNoted 16 = .ok (.putfield 20, 3) := by decide +kernel
theorem dX2_keepNoted_19 : decode cX2_keepNoted 19 = .ok (.goto 16, 3) := by decide +kernel
theorem dX2_keepNoted_22 : decode cX2_keepNoted 22 = .ok (.aload_n 0, 1) := by decide +kernel
theorem dX2_keepNoted_23 : decode cX2_keepNoted 23 = .ok (.aload_n 0, 1) := by decide +kernel
theorem dX2_keepNoted_24 : decode cX2_keepNoted 24 = .ok (.getfield 16, 3) := by decide +kernel
theorem dX2_keepNoted_27 : decode cX2_keepNoted 27 = .ok (.iconst 1, 1) := by decide +kernel
theorem dX2_keepNoted_28 : decode cX2_keepNoted 28 = .ok (.iadd, 1) := by decide +kernel
theorem dX2_keepNoted_29 : decode cX2_keepNoted 29 = .ok (.bipush 9, 2) := by decide +kernel
theorem dX2_keepNoted_31 : decode cX2_keepNoted 31 = .ok (.irem, 1) := by decide +kernel
theorem dX2_keepNoted_32 : decode cX2_keepNoted 32 = .ok (.putfield 16, 3) := by decide +kernel
theorem dX2_keepNoted_35 : decode cX2_keepNoted 35 = .ok (.return_, 1) := by decide +kernel
theorem dX2_takeLatest_0 : decode cX2_takeLatest 0 = .ok (.aload_n 0, 1) := by decide +kernel
theorem dX2_takeLatest_1 : decode cX2_takeLatest 1 = .ok (.getfield 20, 3) := by decide +kernel
theorem dX2_takeLatest_4 : decode cX2_takeLatest 4 = .ok (.ifCond .le 13, 3) := by decide +kernel
theorem dX2_takeLatest_7 : decode cX2_takeLatest 7 = .ok (.aload_n 0, 1) := by decide +kernel
theorem dX2_takeLatest_8 : decode cX2_takeLatest 8 = .ok (.dup, 1) := by decide +kernel
theorem dX2_takeLatest_9 : decode cX2_takeLatest 9 = .ok (.getfield 20, 3) := by decide +kernel
theorem dX2_takeLatest_12 : decode cX2_takeLatest 12 = .ok (.iconst 1, 1) := by decide +kernel
theorem dX2_takeLatest_13 : decode cX2_takeLatest 13 = .ok (.isub, 1) := by decide +kernel
theorem dX2_takeLatest_14 : decode cX2_takeLatest 14 = .ok (.putfield 20, 3) := by decide +kernel
theorem dX2_takeLatest_17 : decode cX2_takeLatest 17 = .ok (.aload_n 0, 1) := by decide +kernel
theorem dX2_takeLatest_18 : decode cX2_takeLatest 18 = .ok (.getfield 13, 3) := by decide +kernel
theorem dX2_takeLatest_21 : decode cX2_takeLatest 21 = .ok (.aload_n 0, 1) := by decide +kernel
theorem dX2_takeLatest_22 : decode cX2_takeLatest 22 = .ok (.getfield 16, 3) := by decide +kernel
theorem dX2_takeLatest_25 : decode cX2_takeLatest 25 = .ok (.aload_n 0, 1) := by decide +kernel
theorem dX2_takeLatest_26 : decode cX2_takeLatest 26 = .ok (.getfield 20, 3) := by decide +kernel
theorem dX2_takeLatest_29 : decode cX2_takeLatest 29 = .ok (.iadd, 1) := by decide +kernel
theorem dX2_takeLatest_30 : decode cX2_takeLatest 30 = .ok (.bipush 9, 2) := by decide +kernel
theorem dX2_takeLatest_32 : decode cX2_takeLatest 32 = .ok (.irem, 1) := by decide +kernel
theorem dX2_takeLatest_33 : decode cX2_takeLatest 33 = .ok (.aaload, 1) := by decide +kernel
theorem dX2_takeLatest_34 : decode cX2_takeLatest 34 = .ok (.areturn, 1) := by decide +kernel
theorem dX2_empty_0 : decode cX2_empty 0 = .ok (.aload_n 0, 1) := by decide +kernel
theorem dX2_empty_1 : decode cX2_empty 1 = .ok (.iconst 0, 1) := by decide +kernel
theorem dX2_empty_2 : decode cX2_empty 2 = .ok (.putfield 16, 3) := by decide +kernel
theorem dX2_empty_5 : decode cX2_empty 5 = .ok (.aload_n 0, 1) := by decide +kernel
theorem dX2_empty_6 : decode cX2_empty 6 = .ok (.iconst 0, 1) := by decide +kernel
theorem dX2_empty_7 : decode cX2_empty 7 = .ok (.putfield 20, 3) := by decide +kernel
theorem dX2_empty_10 : decode cX2_empty 10 = .ok (.return_, 1) := by decide +kernel
theorem dX3_init_0 : decode cX3_init 0 = .ok (.aload_n 0, 1) := by decide +kernel
theorem dX3_init_1 : decode cX3_init 1 = .ok (.invokespecial 3, 3) := by decide +kernel
theorem dX3_init_4 : decode cX3_init 4 = .ok (.aload_n 0, 1) := by decide +kernel
theorem dX3_init_5 : decode cX3_init 5 = .ok (.bipush 24, 2) := by decide +kernel
theorem dX3_init_7 : decode cX3_init 7 = .ok (.newarray .int, 2) := by decide +kernel
theorem dX3_init_9 : decode cX3_init 9 = .ok (.putfield 9, 3) := by decide +kernel
theorem dX3_init_12 : decode cX3_init 12 = .ok (.aload_n 0, 1) := by decide +kernel
theorem dX3_init_13 : decode cX3_init 13 = .ok (.bipush 24, 2) := by decide +kernel
theorem dX3_init_15 : decode cX3_init 15 = .ok (.newarray .int, 2) := by decide +kernel
theorem dX3_init_17 : decode cX3_init 17 = .ok (.putfield 15, 3) := by decide +kernel
theorem dX3_init_20 : decode cX3_init 20 = .ok (.aload_n 0, 1) := by decide +kernel
theorem dX3_init_21 : decode cX3_init 21 = .ok (.bipush 24, 2) := by decide +kernel
theorem dX3_init_23 : decode cX3_init 23 = .ok (.newarray .int, 2) := by decide +kernel
theorem dX3_init_25 : decode cX3_init 25 = .ok (.putfield 18, 3) := by decide +kernel
theorem dX3_init_28 : decode cX3_init 28 = .ok (.return_, 1) := by decide +kernel
theorem dX3_fill_0 : decode cX3_fill 0 = .ok (.aload_n 0, 1) := by decide +kernel
theorem dX3_fill_1 : decode cX3_fill 1 = .ok (.iconst 0, 1) := by decide +kernel
theorem dX3_fill_2 : decode cX3_fill 2 = .ok (.putfield 21, 3) := by decide +kernel
theorem dX3_fill_5 : decode cX3_fill 5 = .ok (.aload_n 0, 1) := by decide +kernel
theorem dX3_fill_6 : decode cX3_fill 6 = .ok (.iload_n 2, 1) := by decide +kernel
theorem dX3_fill_7 : decode cX3_fill 7 = .ok (.invokevirtual 25, 3) := by decide +kernel
theorem dX3_fill_10 : decode cX3_fill 10 = .ok (.istore_n 3, 1) := by decide +kernel
theorem dX3_fill_11 : decode cX3_fill 11 = .ok (.iconst 0, 1) := by decide +kernel
theorem dX3_fill_12 : decode cX3_fill 12 = .ok (.istore 4, 2) := by decide +kernel
theorem dX3_fill_14 : decode cX3_fill 14 = .ok (.iload 4, 2) := by decide +kernel
theorem dX3_fill_16 : decode cX3_fill 16 = .ok (.bipush 24, 2) := by decide +kernel
theorem dX3_fill_18 : decode cX3_fill 18 = .ok (.if_icmp .ge 35, 3) := by decide +kernel
theorem dX3_fill_21 : decode cX3_fill 21 = .ok (.iload 4, 2) := by decide +kernel
theorem dX3_fill_23 : decode cX3_fill 23 = .ok (.aload_n 0, 1) := by decide +kernel
theorem dX3_fill_24 : decode cX3_fill 24 = .ok (.getfield 21, 3) := by decide +kernel
theorem dX3_fill_27 : decode cX3_fill 27 = .ok (.if_icmp .ge 26, 3) := by decide +kernel
theorem dX3_fill_30 : decode cX3_fill 30 = .ok (.iload_n 3, 1) := by decide +kernel
theorem dX3_fill_31 : decode cX3_fill 31 = .ok (.ifCond .eq 22, 3) := by decide +kernel
theorem dX3_fill_34 : decode cX3_fill 34 = .ok (.aload_n 0, 1) := by decide +kernel
theorem dX3_fill_35 : decode cX3_fill 35 = .ok (.aload_n 1, 1) := by decide +kernel
theorem dX3_fill_36 : decode cX3_fill 36 = .ok (.aload_n 0, 1) := by decide +kernel
theorem dX3_fill_37 : decode cX3_fill 37 = .ok (.getfield 9, 3) := by decide +kernel
theorem dX3_fill_40 : decode cX3_fill 40 = .ok (.iload 4, 2) := by decide +kernel
theorem dX3_fill_42 : decode cX3_fill 42 = .ok (.iaload, 1) := by decide +kernel
theorem dX3_fill_43 : decode cX3_fill 43 = .ok (.invokevirtual 29, 3) := by decide +kernel
theorem dX3_fill_46 : decode cX3_fill 46 = .ok (.istore_n 3, 1) := by decide +kernel
theorem dX3_fill_47 : decode cX3_fill 47 = .ok (.iinc 4 1, 3) := by decide +kernel
theorem dX3_fill_50 : decode cX3_fill 50 = .ok (.goto (-36), 3) := by decide +kernel
theorem dX3_fill_53 : decode cX3_fill 53 = .ok (.iload_n 3, 1) := by decide +kernel
theorem dX3_fill_54 : decode cX3_fill 54 = .ok (.ifCond .ne 5, 3) := by decide +kernel
theorem dX3_fill_57 : decode cX3_fill 57 = .ok (.iconst 0, 1) := by decide +kernel
theorem dX3_fill_58 : decode cX3_fill 58 = .ok (.ireturn, 1) := by decide +kernel
theorem dX3_fill_59 : decode cX3_fill 59 = .ok (.aload_n 0, 1) := by decide +kernel
theorem dX3_fill_60 : decode cX3_fill 60 = .ok (.invokevirtual 33, 3) := by decide +kernel
theorem dX3_fill_63 : decode cX3_fill 63 = .ok (.aload_n 0, 1) := by decide +kernel
theorem dX3_fill_64 : decode cX3_fill 64 = .ok (.aload_n 1, 1) := by decide +kernel
theorem dX3_fill_65 : decode cX3_fill 65 = .ok (.invokevirtual 36, 3) := by decide +kernel
theorem dX3_fill_68 : decode cX3_fill 68 = .ok (.aload_n 0, 1) := by decide +kernel
theorem dX3_fill_69 : decode cX3_fill 69 = .ok (.invokevirtual 40, 3) := by decide +kernel
theorem dX3_fill_72 : decode cX3_fill 72 = .ok (.ifCond .ne 7, 3) := by decide +kernel
theorem dX3_fill_75 : decode cX3_fill 75 = .ok (.iconst 1, 1) := by decide +kernel
theorem dX3_fill_76 : decode cX3_fill 76 = .ok (.goto 4, 3) := by decide +kernel
theorem dX3_fill_79 : decode cX3_fill 79 = .ok (.iconst 0, 1) := by decide +kernel
theorem dX3_fill_80 : decode cX3_fill 80 = .ok (.ireturn, 1) := by decide +kernel
theorem dX3_addHeadsBehind_0 : decode cX3_addHeadsBehind 0 = .ok (.aload_n 1, 1) := by decide +kernel
theorem dX3_addHeadsBehind_1 : decode cX3_addHeadsBehind 1 = .ok (.iload_n 2, 1) := by decide +kernel
theorem dX3_addHeadsBehind_2 : decode cX3_addHeadsBehind 2 = .ok (.iaload, 1) := by decide +kernel
theorem dX3_addHeadsBehind_3 : decode cX3_addHeadsBehind 3 = .ok (.istore_n 3, 1) := by decide +kernel
theorem dX3_addHeadsBehind_4 : decode cX3_addHeadsBehind 4 = .ok (.iload_n 3, 1) := by decide +kernel
theorem dX3_addHeadsBehind_5 : decode cX3_addHeadsBehind 5 = .ok (.invokestatic 44, 3) := by decide +kernel
theorem dX3_addHeadsBehind_8 : decode cX3_addHeadsBehind 8 = .ok (.ifCond .ne 5, 3) := by decide +kernel
theorem dX3_addHeadsBehind_11 : decode cX3_addHeadsBehind 11 = .ok (.iconst 0, 1) := by decide +kernel
theorem dX3_addHeadsBehind_12 : decode cX3_addHeadsBehind 12 = .ok (.ireturn, 1) := by decide +kernel
theorem dX3_addHeadsBehind_13 : decode cX3_addHeadsBehind 13 = .ok (.iload_n 2, 1) := by decide +kernel
theorem dX3_addHeadsBehind_14 : decode cX3_addHeadsBehind 14 = .ok (.iload_n 3, 1) := by decide +kernel
theorem dX3_addHeadsBehind_15 : decode cX3_addHeadsBehind 15 = .ok (.invokestatic 47, 3) := by decide +kernel
theorem dX3_addHeadsBehind_18 : decode cX3_addHeadsBehind 18 = .ok (.iadd, 1) := by decide +kernel
theorem dX3_addHeadsBehind_19 : decode cX3_addHeadsBehind 19 = .ok (.istore 4, 2) := by decide +kernel
theorem dX3_addHeadsBehind_21 : decode cX3_addHeadsBehind 21 = .ok (.iload_n 3, 1) := by decide +kernel
theorem dX3_addHeadsBehind_22 : decode cX3_addHeadsBehind 22 = .ok (.ifCond .eq 20, 3) := by decide +kernel
theorem dX3_addHeadsBehind_25 : decode cX3_addHeadsBehind 25 = .ok (.iload_n 3, 1) := by decide +kernel
theorem dX3_addHeadsBehind_26 : decode cX3_addHeadsBehind 26 = .ok (.bipush 6, 2) := by decide +kernel
theorem dX3_addHeadsBehind_28 : decode cX3_addHeadsBehind 28 = .ok (.if_icmp .eq 14, 3) := by decide +kernel
theorem dX3_addHeadsBehind_31 : decode cX3_addHeadsBehind 31 = .ok (.aload_n 0, 1) := by decide +kernel
theorem dX3_addHeadsBehind_32 : decode cX3_addHeadsBehind 32 = .ok (.iload 4, 2) := by decide +kernel
theorem dX3_addHeadsBehind_34 : decode cX3_addHeadsBehind 34 = .ok (.invokevirtual 25, 3) := by decide +kernel
theorem dX3_addHeadsBehind_37 : decode cX3_addHeadsBehind 37 = .ok (.ifCond .ne 5, 3) := by decide +kernel
theorem dX3_addHeadsBehind_40 : decode cX3_addHeadsBehind 40 = .ok (.iconst 0, 1) := by decide +kernel
theorem dX3_addHeadsBehind_41 : decode cX3_addHeadsBehind 41 = .ok (.ireturn, 1) := by decide +kernel
theorem dX3_addHeadsBehind_42 : decode cX3_addHeadsBehind 42 = .ok (.iload_n 3, 1) := by decide +kernel
theorem dX3_addHeadsBehind_43 : decode cX3_addHeadsBehind 43 = .ok (.invokestatic 51, 3) := by decide +kernel
theorem dX3_addHeadsBehind_46 : decode cX3_addHeadsBehind 46 = .ok (.ifCond .eq 23, 3) := by decide +kernel
theorem dX3_addHeadsBehind_49 : decode cX3_addHeadsBehind 49 = .ok (.aload_n 0, 1) := by decide +kernel
theorem dX3_addHeadsBehind_50 : decode cX3_addHeadsBehind 50 = .ok (.iload 4, 2) := by decide +kernel
theorem dX3_addHeadsBehind_52 : decode cX3_addHeadsBehind 52 = .ok (.aload_n 1, 1) := by decide +kernel
theorem dX3_addHeadsBehind_53 : decode cX3_addHeadsBehind 53 = .ok (.iload_n 2, 1) := by decide +kernel
theorem dX3_addHeadsBehind_54 : decode cX3_addHeadsBehind 54 = .ok (.iconst 1, 1) := by decide +kernel
theorem dX3_addHeadsBehind_55 : decode cX3_addHeadsBehind 55 = .ok (.iadd, 1) := by decide +kernel
theorem dX3_addHeadsBehind_56 : decode cX3_addHeadsBehind 56 = .ok (.sipush 255, 3) := by decide +kernel
theorem dX3_addHeadsBehind_59 : decode cX3_addHeadsBehind 59 = .ok (.iand, 1) := by decide +kernel
theorem dX3_addHeadsBehind_60 : decode cX3_addHeadsBehind 60 = .ok (.iaload, 1) := by decide +kernel
theorem dX3_addHeadsBehind_61 : decode cX3_addHeadsBehind 61 = .ok (.i2b, 1) := by decide +kernel
theorem dX3_addHeadsBehind_62 : decode cX3_addHeadsBehind 62 = .ok (.iadd, 1) := by decide +kernel
theorem dX3_addHeadsBehind_63 : decode cX3_addHeadsBehind 63 = .ok (.invokevirtual 25, 3) := by decide +kernel
theorem dX3_addHeadsBehind_66 : decode cX3_addHeadsBehind 66 = .ok (.ifCond .eq 7, 3) := by decide +kernel
theorem dX3_addHeadsBehind_69 : decode cX3_addHeadsBehind 69 = .ok (.iconst 1, 1) := by decide +kernel
theorem dX3_addHeadsBehind_70 : decode cX3_addHeadsBehind 70 = .ok (.goto 4, 3) := by decide +kernel
theorem dX3_addHeadsBehind_73 : decode cX3_addHeadsBehind 73 = .ok (.iconst 0, 1) := by decide +kernel
theorem dX3_addHeadsBehind_74 : decode cX3_addHeadsBehind 74 = .ok (.ireturn, 1) := by decide +kernel
theorem dX3_addHead_0 : decode cX3_addHead 0 = .ok (.iload_n 1, 1) := by decide +kernel
theorem dX3_addHead_1 : decode cX3_addHead 1 = .ok (.sipush 255, 3) := by decide +kernel
theorem dX3_addHead_4 : decode cX3_addHead 4 = .ok (.iand, 1) := by decide +kernel
theorem dX3_addHead_5 : decode cX3_addHead 5 = .ok (.istore_n 2, 1) := by decide +kernel
theorem dX3_addHead_6 : decode cX3_addHead 6 = .ok (.aload_n 0, 1) := by decide +kernel
theorem dX3_addHead_7 : decode cX3_addHead 7 = .ok (.iload_n 2, 1) := by decide +kernel
theorem dX3_addHead_8 : decode cX3_addHead 8 = .ok (.invokevirtual 54, 3) := by decide +kernel
theorem dX3_addHead_11 : decode cX3_addHead 11 = .ok (.ifCond .lt 5, 3) := by decide +kernel
theorem dX3_addHead_14 : decode cX3_addHead 14 = .ok (.iconst 1, 1) := by decide +kernel
theorem dX3_addHead_15 : decode cX3_addHead 15 = .ok (.ireturn, 1) := by decide +kernel
theorem dX3_addHead_16 : decode cX3_addHead 16 = .ok (.aload_n 0, 1) := by decide +kernel
theorem dX3_addHead_17 : decode cX3_addHead 17 = .ok (.getfield 21, 3) := by decide +kernel
theorem dX3_addHead_20 : decode cX3_addHead 20 = .ok (.bipush 24, 2) := by decide +kernel
theorem dX3_addHead_22 : decode cX3_addHead 22 = .ok (.if_icmp .lt 5, 3) := by decide +kernel
theorem dX3_addHead_25 : decode cX3_addHead 25 = .ok (.iconst 0, 1) := by decide +kernel
theorem dX3_addHead_26 : decode cX3_addHead 26 = .ok (.ireturn, 1) := by decide +kernel
theorem dX3_addHead_27 : decode cX3_addHead 27 = .ok (.aload_n 0, 1) := by decide +kernel
theorem dX3_addHead_28 : decode cX3_addHead 28 = .ok (.getfield 9, 3) := by decide +kernel
theorem dX3_addHead_31 : decode cX3_addHead 31 = .ok (.aload_n 0, 1) := by decide +kernel
theorem dX3_addHead_32 : decode cX3_addHead 32 = .ok (.getfield 21, 3) := by decide +kernel
theorem dX3_addHead_35 : decode cX3_addHead 35 = .ok (.iload_n 2, 1) := by decide +kernel
theorem dX3_addHead_36 : decode cX3_addHead 36 = .ok (.iastore, 1) := by decide +kernel
theorem dX3_addHead_37 : decode cX3_addHead 37 = .ok (.aload_n 0, 1) := by decide +kernel
theorem dX3_addHead_38 : decode cX3_addHead 38 = .ok (.dup, 1) := by decide +kernel
theorem dX3_addHead_39 : decode cX3_addHead 39 = .ok (.getfield 21, 3) := by decide +kernel
theorem dX3_addHead_42 : decode cX3_addHead 42 = .ok (.iconst 1, 1) := by decide +kernel
theorem dX3_addHead_43 : decode cX3_addHead 43 = .ok (.iadd, 1) := by decide +kernel
theorem dX3_addHead_44 : decode cX3_addHead 44 = .ok (.putfield 21, 3) := by decide +kernel
theorem dX3_addHead_47 : decode cX3_addHead 47 = .ok (.iconst 1, 1) := by decide +kernel
theorem dX3_addHead_48 : decode cX3_addHead 48 = .ok (.ireturn, 1) := by decide +kernel
theorem dX3_sortHeads_0 : decode cX3_sortHeads 0 = .ok (.iconst 1, 1) := by decide +kernel
theorem dX3_sortHeads_1 : decode cX3_sortHeads 1 = .ok (.istore_n 1, 1) := by decide +kernel
theorem dX3_sortHeads_2 : decode cX3_sortHeads 2 = .ok (.iload_n 1, 1) := by decide +kernel
theorem dX3_sortHeads_3 : decode cX3_sortHeads 3 = .ok (.aload_n 0, 1) := by decide +kernel
theorem dX3_sortHeads_4 : decode cX3_sortHeads 4 = .ok (.getfield 21, 3) := by decide +kernel
theorem dX3_sortHeads_7 : decode cX3_sortHeads 7 = .ok (.if_icmp .ge 61, 3) := by decide +kernel
theorem dX3_sortHeads_10 : decode cX3_sortHeads 10 = .ok (.aload_n 0, 1) := by decide +kernel
theorem dX3_sortHeads_11 : decode cX3_sortHeads 11 = .ok (.getfield 9, 3) := by decide +kernel
theorem dX3_sortHeads_14 : decode cX3_sortHeads 14 = .ok (.iload_n 1, 1) := by decide +kernel
theorem dX3_sortHeads_15 : decode cX3_sortHeads 15 = .ok (.iaload, 1) := by decide +kernel
theorem dX3_sortHeads_16 : decode cX3_sortHeads 16 = .ok (.istore_n 2, 1) := by decide +kernel
theorem dX3_sortHeads_17 : decode cX3_sortHeads 17 = .ok (.iload_n 1, 1) := by decide +kernel
theorem dX3_sortHeads_18 : decode cX3_sortHeads 18 = .ok (.istore_n 3, 1) := by decide +kernel
theorem dX3_sortHeads_19 : decode cX3_sortHeads 19 = .ok (.iload_n 3, 1) := by decide +kernel
theorem dX3_sortHeads_20 : decode cX3_sortHeads 20 = .ok (.ifCond .le 35, 3) := by decide +kernel
theorem dX3_sortHeads_23 : decode cX3_sortHeads 23 = .ok (.aload_n 0, 1) := by decide +kernel
theorem dX3_sortHeads_24 : decode cX3_sortHeads 24 = .ok (.getfield 9, 3) := by decide +kernel
theorem dX3_sortHeads_27 : decode cX3_sortHeads 27 = .ok (.iload_n 3, 1) := by decide +kernel
theorem dX3_sortHeads_28 : decode cX3_sortHeads 28 = .ok (.iconst 1, 1) := by decide +kernel
theorem dX3_sortHeads_29 : decode cX3_sortHeads 29 = .ok (.isub, 1) := by decide +kernel
theorem dX3_sortHeads_30 : decode cX3_sortHeads 30 = .ok (.iaload, 1) := by decide +kernel
theorem dX3_sortHeads_31 : decode cX3_sortHeads 31 = .ok (.iload_n 2, 1) := by decide +kernel
theorem dX3_sortHeads_32 : decode cX3_sortHeads 32 = .ok (.if_icmp .le 23, 3) := by decide +kernel
theorem dX3_sortHeads_35 : decode cX3_sortHeads 35 = .ok (.aload_n 0, 1) := by decide +kernel
theorem dX3_sortHeads_36 : decode cX3_sortHeads 36 = .ok (.getfield 9, 3) := by decide +kernel
theorem dX3_sortHeads_39 : decode cX3_sortHeads 39 = .ok (.iload_n 3, 1) := by decide +kernel
theorem dX3_sortHeads_40 : decode cX3_sortHeads 40 = .ok (.aload_n 0, 1) := by decide +kernel
theorem dX3_sortHeads_41 : decode cX3_sortHeads 41 = .ok (.getfield 9, 3) := by decide +kernel
theorem dX3_sortHeads_44 : decode cX3_sortHeads 44 = .ok (.iload_n 3, 1) := by decide +kernel
theorem dX3_sortHeads_45 : decode cX3_sortHeads 45 = .ok (.iconst 1, 1) := by decide +kernel
theorem dX3_sortHeads_46 : decode cX3_sortHeads 46 = .ok (.isub, 1) := by decide +kernel
theorem dX3_sortHeads_47 : decode cX3_sortHeads 47 = .ok (.iaload, 1) := by decide +kernel
theorem dX3_sortHeads_48 : decode cX3_sortHeads 48 = .ok (.iastore, 1) := by decide +kernel
theorem dX3_sortHeads_49 : decode cX3_sortHeads 49 = .ok (.iinc 3 (-1), 3) := by decide +kernel
theorem dX3_sortHeads_52 : decode cX3_sortHeads 52 = .ok (.goto (-33), 3) := by decide +kernel
theorem dX3_sortHeads_55 : decode cX3_sortHeads 55 = .ok (.aload_n 0, 1) := by decide +kernel
theorem dX3_sortHeads_56 : decode cX3_sortHeads 56 = .ok (.getfield 9, 3) := by decide +kernel
theorem dX3_sortHeads_59 : decode cX3_sortHeads 59 = .ok (.iload_n 3, 1) := by decide +kernel
theorem dX3_sortHeads_60 : decode cX3_sortHeads 60 = .ok (.iload_n 2, 1) := by decide +kernel
theorem dX3_sortHeads_61 : decode cX3_sortHeads 61 = .ok (.iastore, 1) := by decide +kernel
theorem dX3_sortHeads_62 : decode cX3_sortHeads 62 = .ok (.iinc 1 1, 3) := by decide +kernel
theorem dX3_sortHeads_65 : decode cX3_sortHeads 65 = .ok (.goto (-63), 3) := by decide +kernel
theorem dX3_sortHeads_68 : decode cX3_sortHeads 68 = .ok (.return_, 1) := by decide +kernel
theorem dX3_decode_0 : decode cX3_decode 0 = .ok (.iconst 0, 1) := by decide +kernel
theorem dX3_decode_1 : decode cX3_decode 1 = .ok (.istore_n 2, 1) := by decide +kernel
theorem dX3_decode_2 : decode cX3_decode 2 = .ok (.iload_n 2, 1) := by decide +kernel
theorem dX3_decode_3 : decode cX3_decode 3 = .ok (.aload_n 0, 1) := by decide +kernel
theorem dX3_decode_4 : decode cX3_decode 4 = .ok (.getfield 21, 3) := by decide +kernel
theorem dX3_decode_7 : decode cX3_decode 7 = .ok (.if_icmp .ge 43, 3) := by decide +kernel
theorem dX3_decode_10 : decode cX3_decode 10 = .ok (.aload_n 0, 1) := by decide +kernel
theorem dX3_decode_11 : decode cX3_decode 11 = .ok (.getfield 15, 3) := by decide +kernel
theorem dX3_decode_14 : decode cX3_decode 14 = .ok (.iload_n 2, 1) := by decide +kernel
theorem dX3_decode_15 : decode cX3_decode 15 = .ok (.aload_n 1, 1) := by decide +kernel
theorem dX3_decode_16 : decode cX3_decode 16 = .ok (.aload_n 0, 1) := by decide +kernel
theorem dX3_decode_17 : decode cX3_decode 17 = .ok (.getfield 9, 3) := by decide +kernel
theorem dX3_decode_20 : decode cX3_decode 20 = .ok (.iload_n 2, 1) := by decide +kernel
theorem dX3_decode_21 : decode cX3_decode 21 = .ok (.iaload, 1) := by decide +kernel
theorem dX3_decode_22 : decode cX3_decode 22 = .ok (.iaload, 1) := by decide +kernel
theorem dX3_decode_23 : decode cX3_decode 23 = .ok (.iastore, 1) := by decide +kernel
theorem dX3_decode_24 : decode cX3_decode 24 = .ok (.aload_n 0, 1) := by decide +kernel
theorem dX3_decode_25 : decode cX3_decode 25 = .ok (.getfield 18, 3) := by decide +kernel
theorem dX3_decode_28 : decode cX3_decode 28 = .ok (.iload_n 2, 1) := by decide +kernel
theorem dX3_decode_29 : decode cX3_decode 29 = .ok (.aload_n 1, 1) := by decide +kernel
theorem dX3_decode_30 : decode cX3_decode 30 = .ok (.aload_n 0, 1) := by decide +kernel
theorem dX3_decode_31 : decode cX3_decode 31 = .ok (.getfield 9, 3) := by decide +kernel
theorem dX3_decode_34 : decode cX3_decode 34 = .ok (.iload_n 2, 1) := by decide +kernel
theorem dX3_decode_35 : decode cX3_decode 35 = .ok (.iaload, 1) := by decide +kernel
theorem dX3_decode_36 : decode cX3_decode 36 = .ok (.iconst 1, 1) := by decide +kernel
theorem dX3_decode_37 : decode cX3_decode 37 = .ok (.iadd, 1) := by decide +kernel
theorem dX3_decode_38 : decode cX3_decode 38 = .ok (.sipush 255, 3) := by decide +kernel
theorem dX3_decode_41 : decode cX3_decode 41 = .ok (.iand, 1) := by decide +kernel
theorem dX3_decode_42 : decode cX3_decode 42 = .ok (.iaload, 1) := by decide +kernel
theorem dX3_decode_43 : decode cX3_decode 43 = .ok (.iastore, 1) := by decide +kernel
theorem dX3_decode_44 : decode cX3_decode 44 = .ok (.iinc 2 1, 3) := by decide +kernel
theorem dX3_decode_47 : decode cX3_decode 47 = .ok (.goto (-45), 3) := by decide +kernel
theorem dX3_decode_50 : decode cX3_decode 50 = .ok (.return_, 1) := by decide +kernel
theorem dX3_hasActsThatMeet_0 : decode cX3_hasActsThatMeet 0 = .ok (.iconst 0, 1) := by decide +kernel
theorem dX3_hasActsThatMeet_1 : decode cX3_hasActsThatMeet 1 = .ok (.istore_n 1, 1) := by decide +kernel
theorem dX3_hasActsThatMeet_2 : decode cX3_hasActsThatMeet 2 = .ok (.iload_n 1, 1) := by decide +kernel
theorem dX3_hasActsThatMeet_3 : decode cX3_hasActsThatMeet 3 = .ok (.aload_n 0, 1) := by decide +kernel
theorem dX3_hasActsThatMeet_4 : decode cX3_hasActsThatMeet 4 = .ok (.getfield 21, 3) := by decide +kernel
theorem dX3_hasActsThatMeet_7 : decode cX3_hasActsThatMeet 7 = .ok (.if_icmp .ge 42, 3) := by decide +kernel
theorem dX3_hasActsThatMeet_10 : decode cX3_hasActsThatMeet 10 = .ok (.aload_n 0, 1) := by decide +kernel
theorem dX3_hasActsThatMeet_11 : decode cX3_hasActsThatMeet 11 = .ok (.getfield 15, 3) := by decide +kernel
theorem dX3_hasActsThatMeet_14 : decode cX3_hasActsThatMeet 14 = .ok (.iload_n 1, 1) := by decide +kernel
theorem dX3_hasActsThatMeet_15 : decode cX3_hasActsThatMeet 15 = .ok (.iaload, 1) := by decide +kernel
theorem dX3_hasActsThatMeet_16 : decode cX3_hasActsThatMeet 16 = .ok (.invokestatic 57, 3) := by decide +kernel
theorem dX3_hasActsThatMeet_19 : decode cX3_hasActsThatMeet 19 = .ok (.ifCond .eq 24, 3) := by decide +kernel
theorem dX3_hasActsThatMeet_22 : decode cX3_hasActsThatMeet 22 = .ok (.aload_n 0, 1) := by decide +kernel
theorem dX3_hasActsThatMeet_23 : decode cX3_hasActsThatMeet 23 = .ok (.aload_n 0, 1) := by decide +kernel
theorem dX3_hasActsThatMeet_24 : decode cX3_hasActsThatMeet 24 = .ok (.getfield 9, 3) := by decide +kernel
theorem dX3_hasActsThatMeet_27 : decode cX3_hasActsThatMeet 27 = .ok (.iload_n 1, 1) := by decide +kernel
theorem dX3_hasActsThatMeet_28 : decode cX3_hasActsThatMeet 28 = .ok (.iaload, 1) := by decide +kernel
theorem dX3_hasActsThatMeet_29 : decode cX3_hasActsThatMeet 29 = .ok (.iconst 1, 1) := by decide +kernel
theorem dX3_hasActsThatMeet_30 : decode cX3_hasActsThatMeet 30 = .ok (.iadd, 1) := by decide +kernel
theorem dX3_hasActsThatMeet_31 : decode cX3_hasActsThatMeet 31 = .ok (.sipush 255, 3) := by decide +kernel
theorem dX3_hasActsThatMeet_34 : decode cX3_hasActsThatMeet 34 = .ok (.iand, 1) := by decide +kernel
theorem dX3_hasActsThatMeet_35 : decode cX3_hasActsThatMeet 35 = .ok (.invokevirtual 54, 3) := by decide +kernel
theorem dX3_hasActsThatMeet_38 : decode cX3_hasActsThatMeet 38 = .ok (.ifCond .lt 5, 3) := by decide +kernel
theorem dX3_hasActsThatMeet_41 : decode cX3_hasActsThatMeet 41 = .ok (.iconst 1, 1) := by decide +kernel
theorem dX3_hasActsThatMeet_42 : decode cX3_hasActsThatMeet 42 = .ok (.ireturn, 1) := by decide +kernel
theorem dX3_hasActsThatMeet_43 : decode cX3_hasActsThatMeet 43 = .ok (.iinc 1 1, 3) := by decide +kernel
theorem dX3_hasActsThatMeet_46 : decode cX3_hasActsThatMeet 46 = .ok (.goto (-44), 3) := by decide +kernel
theorem dX3_hasActsThatMeet_49 : decode cX3_hasActsThatMeet 49 = .ok (.iconst 0, 1) := by decide +kernel
theorem dX3_hasActsThatMeet_50 : decode cX3_hasActsThatMeet 50 = .ok (.ireturn, 1) := by decide +kernel
theorem dX3_indexOf_0 : decode cX3_indexOf 0 = .ok (.iconst 0, 1) := by decide +kernel
theorem dX3_indexOf_1 : decode cX3_indexOf 1 = .ok (.istore_n 2, 1) := by decide +kernel
theorem dX3_indexOf_2 : decode cX3_indexOf 2 = .ok (.iload_n 2, 1) := by decide +kernel
theorem dX3_indexOf_3 : decode cX3_indexOf 3 = .ok (.aload_n 0, 1) := by decide +kernel
theorem dX3_indexOf_4 : decode cX3_indexOf 4 = .ok (.getfield 21, 3) := by decide +kernel
theorem dX3_indexOf_7 : decode cX3_indexOf 7 = .ok (.if_icmp .ge 21, 3) := by decide +kernel
theorem dX3_indexOf_10 : decode cX3_indexOf 10 = .ok (.aload_n 0, 1) := by decide +kernel
theorem dX3_indexOf_11 : decode cX3_indexOf 11 = .ok (.getfield 9, 3) := by decide +kernel
theorem dX3_indexOf_14 : decode cX3_indexOf 14 = .ok (.iload_n 2, 1) := by decide +kernel
theorem dX3_indexOf_15 : decode cX3_indexOf 15 = .ok (.iaload, 1) := by decide +kernel
theorem dX3_indexOf_16 : decode cX3_indexOf 16 = .ok (.iload_n 1, 1) := by decide +kernel
theorem dX3_indexOf_17 : decode cX3_indexOf 17 = .ok (.if_icmp .ne 5, 3) := by decide +kernel
theorem dX3_indexOf_20 : decode cX3_indexOf 20 = .ok (.iload_n 2, 1) := by decide +kernel
theorem dX3_indexOf_21 : decode cX3_indexOf 21 = .ok (.ireturn, 1) := by decide +kernel
theorem dX3_indexOf_22 : decode cX3_indexOf 22 = .ok (.iinc 2 1, 3) := by decide +kernel
theorem dX3_indexOf_25 : decode cX3_indexOf 25 = .ok (.goto (-23), 3) := by decide +kernel
theorem dX3_indexOf_28 : decode cX3_indexOf 28 = .ok (.iconst (-1), 1) := by decide +kernel
theorem dX3_indexOf_29 : decode cX3_indexOf 29 = .ok (.ireturn, 1) := by decide +kernel
theorem dX3_placeCount_0 : decode cX3_placeCount 0 = .ok (.iconst 0, 1) := by decide +kernel
theorem dX3_placeCount_1 : decode cX3_placeCount 1 = .ok (.istore_n 1, 1) := by decide +kernel
theorem dX3_placeCount_2 : decode cX3_placeCount 2 = .ok (.iconst 0, 1) := by decide +kernel
theorem dX3_placeCount_3 : decode cX3_placeCount 3 = .ok (.istore_n 2, 1) := by decide +kernel
theorem dX3_placeCount_4 : decode cX3_placeCount 4 = .ok (.iload_n 2, 1) := by decide +kernel
theorem dX3_placeCount_5 : decode cX3_placeCount 5 = .ok (.aload_n 0, 1) := by decide +kernel
theorem dX3_placeCount_6 : decode cX3_placeCount 6 = .ok (.getfield 21, 3) := by decide +kernel
theorem dX3_placeCount_9 : decode cX3_placeCount 9 = .ok (.if_icmp .ge 21, 3) := by decide +kernel
theorem dX3_placeCount_12 : decode cX3_placeCount 12 = .ok (.iload_n 1, 1) := by decide +kernel
theorem dX3_placeCount_13 : decode cX3_placeCount 13 = .ok (.aload_n 0, 1) := by decide +kernel
theorem dX3_placeCount_14 : decode cX3_placeCount 14 = .ok (.getfield 15, 3) := by decide +kernel
theorem dX3_placeCount_17 : decode cX3_placeCount 17 = .ok (.iload_n 2, 1) := by decide +kernel
theorem dX3_placeCount_18 : decode cX3_placeCount 18 = .ok (.iaload, 1) := by decide +kernel
theorem dX3_placeCount_19 : decode cX3_placeCount 19 = .ok (.invokestatic 47, 3) := by decide +kernel
theorem dX3_placeCount_22 : decode cX3_placeCount 22 = .ok (.iadd, 1) := by decide +kernel
theorem dX3_placeCount_23 : decode cX3_placeCount 23 = .ok (.istore_n 1, 1) := by decide +kernel
theorem dX3_placeCount_24 : decode cX3_placeCount 24 = .ok (.iinc 2 1, 3) := by decide +kernel
theorem dX3_placeCount_27 : decode cX3_placeCount 27 = .ok (.goto (-23), 3) := by decide +kernel
theorem dX3_placeCount_30 : decode cX3_placeCount 30 = .ok (.iload_n 1, 1) := by decide +kernel
theorem dX3_placeCount_31 : decode cX3_placeCount 31 = .ok (.ireturn, 1) := by decide +kernel
theorem dX3_isAsIn_0 : decode cX3_isAsIn 0 = .ok (.iconst 0, 1) := by decide +kernel
theorem dX3_isAsIn_1 : decode cX3_isAsIn 1 = .ok (.istore_n 2, 1) := by decide +kernel
theorem dX3_isAsIn_2 : decode cX3_isAsIn 2 = .ok (.iload_n 2, 1) := by decide +kernel
theorem dX3_isAsIn_3 : decode cX3_isAsIn 3 = .ok (.aload_n 0, 1) := by decide +kernel
theorem dX3_isAsIn_4 : decode cX3_isAsIn 4 = .ok (.getfield 21, 3) := by decide +kernel
theorem dX3_isAsIn_7 : decode cX3_isAsIn 7 = .ok (.if_icmp .ge 65, 3) := by decide +kernel
theorem dX3_isAsIn_10 : decode cX3_isAsIn 10 = .ok (.aload_n 1, 1) := by decide +kernel
theorem dX3_isAsIn_11 : decode cX3_isAsIn 11 = .ok (.aload_n 0, 1) := by decide +kernel
theorem dX3_isAsIn_12 : decode cX3_isAsIn 12 = .ok (.getfield 9, 3) := by decide +kernel
theorem dX3_isAsIn_15 : decode cX3_isAsIn 15 = .ok (.iload_n 2, 1) := by decide +kernel
theorem dX3_isAsIn_16 : decode cX3_isAsIn 16 = .ok (.iaload, 1) := by decide +kernel
theorem dX3_isAsIn_17 : decode cX3_isAsIn 17 = .ok (.iaload, 1) := by decide +kernel
theorem dX3_isAsIn_18 : decode cX3_isAsIn 18 = .ok (.aload_n 0, 1) := by decide +kernel
theorem dX3_isAsIn_19 : decode cX3_isAsIn 19 = .ok (.getfield 15, 3) := by decide +kernel
theorem dX3_isAsIn_22 : decode cX3_isAsIn 22 = .ok (.iload_n 2, 1) := by decide +kernel
theorem dX3_isAsIn_23 : decode cX3_isAsIn 23 = .ok (.iaload, 1) := by decide +kernel
theorem dX3_isAsIn_24 : decode cX3_isAsIn 24 = .ok (.if_icmp .eq 5, 3) := by decide +kernel
theorem dX3_isAsIn_27 : decode cX3_isAsIn 27 = .ok (.iconst 0, 1) := by decide +kernel
theorem dX3_isAsIn_28 : decode cX3_isAsIn 28 = .ok (.ireturn, 1) := by decide +kernel
theorem dX3_isAsIn_29 : decode cX3_isAsIn 29 = .ok (.aload_n 0, 1) := by decide +kernel
theorem dX3_isAsIn_30 : decode cX3_isAsIn 30 = .ok (.getfield 15, 3) := by decide +kernel
theorem dX3_isAsIn_33 : decode cX3_isAsIn 33 = .ok (.iload_n 2, 1) := by decide +kernel
theorem dX3_isAsIn_34 : decode cX3_isAsIn 34 = .ok (.iaload, 1) := by decide +kernel
theorem dX3_isAsIn_35 : decode cX3_isAsIn 35 = .ok (.invokestatic 57, 3) := by decide +kernel
theorem dX3_isAsIn_38 : decode cX3_isAsIn 38 = .ok (.ifCond .eq 28, 3) := by decide +kernel
theorem dX3_isAsIn_41 : decode cX3_isAsIn 41 = .ok (.aload_n 1, 1) := by decide +kernel
theorem dX3_isAsIn_42 : decode cX3_isAsIn 42 = .ok (.aload_n 0, 1) := by decide +kernel
theorem dX3_isAsIn_43 : decode cX3_isAsIn 43 = .ok (.getfield 9, 3) := by decide +kernel
theorem dX3_isAsIn_46 : decode cX3_isAsIn 46 = .ok (.iload_n 2, 1) := by decide +kernel
theorem dX3_isAsIn_47 : decode cX3_isAsIn 47 = .ok (.iaload, 1) := by decide +kernel
theorem dX3_isAsIn_48 : decode cX3_isAsIn 48 = .ok (.iconst 1, 1) := by decide +kernel
theorem dX3_isAsIn_49 : decode cX3_isAsIn 49 = .ok (.iadd, 1) := by decide +kernel
theorem dX3_isAsIn_50 : decode cX3_isAsIn 50 = .ok (.sipush 255, 3) := by decide +kernel
theorem dX3_isAsIn_53 : decode cX3_isAsIn 53 = .ok (.iand, 1) := by decide +kernel
theorem dX3_isAsIn_54 : decode cX3_isAsIn 54 = .ok (.iaload, 1) := by decide +kernel
theorem dX3_isAsIn_55 : decode cX3_isAsIn 55 = .ok (.aload_n 0, 1) := by decide +kernel
theorem dX3_isAsIn_56 : decode cX3_isAsIn 56 = .ok (.getfield 18, 3) := by decide +kernel
theorem dX3_isAsIn_59 : decode cX3_isAsIn 59 = .ok (.iload_n 2, 1) := by decide +kernel
theorem dX3_isAsIn_60 : decode cX3_isAsIn 60 = .ok (.iaload, 1) := by decide +kernel
theorem dX3_isAsIn_61 : decode cX3_isAsIn 61 = .ok (.if_icmp .eq 5, 3) := by decide +kernel
theorem dX3_isAsIn_64 : decode cX3_isAsIn 64 = .ok (.iconst 0, 1) := by decide +kernel
theorem dX3_isAsIn_65 : decode cX3_isAsIn 65 = .ok (.ireturn, 1) := by decide +kernel
theorem dX3_isAsIn_66 : decode cX3_isAsIn 66 = .ok (.iinc 2 1, 3) := by decide +kernel
theorem dX3_isAsIn_69 : decode cX3_isAsIn 69 = .ok (.goto (-67), 3) := by decide +kernel
theorem dX3_isAsIn_72 : decode cX3_isAsIn 72 = .ok (.iconst 1, 1) := by decide +kernel
theorem dX3_isAsIn_73 : decode cX3_isAsIn 73 = .ok (.ireturn, 1) := by decide +kernel
theorem dX4_init_0 : decode cX4_init 0 = .ok (.aload_n 0, 1) := by decide +kernel
theorem dX4_init_1 : decode cX4_init 1 = .ok (.invokespecial 3, 3) := by decide +kernel
theorem dX4_init_4 : decode cX4_init 4 = .ok (.aload_n 0, 1) := by decide +kernel
theorem dX4_init_5 : decode cX4_init 5 = .ok (.sipush 256, 3) := by decide +kernel
theorem dX4_init_8 : decode cX4_init 8 = .ok (.newarray .int, 2) := by decide +kernel
theorem dX4_init_10 : decode cX4_init 10 = .ok (.putfield 9, 3) := by decide +kernel
theorem dX4_init_13 : decode cX4_init 13 = .ok (.aload_n 0, 1) := by decide +kernel
theorem dX4_init_14 : decode cX4_init 14 = .ok (.aload_n 1, 1) := by decide +kernel
theorem dX4_init_15 : decode cX4_init 15 = .ok (.putfield 15, 3) := by decide +kernel
theorem dX4_init_18 : decode cX4_init 18 = .ok (.return_, 1) := by decide +kernel
theorem dX4_beginChanges_0 : decode cX4_beginChanges 0 = .ok (.aload_n 0, 1) := by decide +kernel
theorem dX4_beginChanges_1 : decode cX4_beginChanges 1 = .ok (.iconst 0, 1) := by decide +kernel
theorem dX4_beginChanges_2 : decode cX4_beginChanges 2 = .ok (.putfield 19, 3) := by decide +kernel
theorem dX4_beginChanges_5 : decode cX4_beginChanges 5 = .ok (.aload_n 0, 1) := by decide +kernel
theorem dX4_beginChanges_6 : decode cX4_beginChanges 6 = .ok (.aload_n 0, 1) := by decide +kernel
theorem dX4_beginChanges_7 : decode cX4_beginChanges 7 = .ok (.getfield 23, 3) := by decide +kernel
theorem dX4_beginChanges_10 : decode cX4_beginChanges 10 = .ok (.putfield 26, 3) := by decide +kernel
theorem dX4_beginChanges_13 : decode cX4_beginChanges 13 = .ok (.return_, 1) := by decide +kernel
theorem dX4_become_0 : decode cX4_become 0 = .ok (.iload_n 1, 1) := by decide +kernel
theorem dX4_become_1 : decode cX4_become 1 = .ok (.sipush 255, 3) := by decide +kernel
theorem dX4_become_4 : decode cX4_become 4 = .ok (.iand, 1) := by decide +kernel
theorem dX4_become_5 : decode cX4_become 5 = .ok (.istore_n 3, 1) := by decide +kernel
theorem dX4_become_6 : decode cX4_become 6 = .ok (.aload_n 0, 1) := by decide +kernel
theorem dX4_become_7 : decode cX4_become 7 = .ok (.getfield 9, 3) := by decide +kernel
theorem dX4_become_10 : decode cX4_become 10 = .ok (.iload_n 3, 1) := by decide +kernel
theorem dX4_become_11 : decode cX4_become 11 = .ok (.iaload, 1) := by decide +kernel
theorem dX4_become_12 : decode cX4_become 12 = .ok (.iload_n 2, 1) := by decide +kernel
theorem dX4_become_13 : decode cX4_become 13 = .ok (.if_icmp .ne 4, 3) := by decide +kernel
theorem dX4_become_16 : decode cX4_become 16 = .ok (.return_, 1) := by decide +kernel
theorem dX4_become_17 : decode cX4_become 17 = .ok (.aload_n 0, 1) := by decide +kernel
theorem dX4_become_18 : decode cX4_become 18 = .ok (.getfield 15, 3) := by decide +kernel
theorem dX4_become_21 : decode cX4_become 21 = .ok (.getfield 29, 3) := by decide +kernel
theorem dX4_become_24 : decode cX4_become 24 = .ok (.iload_n 3, 1) := by decide +kernel
theorem dX4_become_25 : decode cX4_become 25 = .ok (.iconst 4, 1) := by decide +kernel
theorem dX4_become_26 : decode cX4_become 26 = .ok (.ishr, 1) := by decide +kernel
theorem dX4_become_27 : decode cX4_become 27 = .ok (.iaload, 1) := by decide +kernel
theorem dX4_become_28 : decode cX4_become 28 = .ok (.aload_n 0, 1) := by decide +kernel
theorem dX4_become_29 : decode cX4_become 29 = .ok (.getfield 23, 3) := by decide +kernel
theorem dX4_become_32 : decode cX4_become 32 = .ok (.iand, 1) := by decide +kernel
theorem dX4_become_33 : decode cX4_become 33 = .ok (.ifCond .eq 13, 3) := by decide +kernel
theorem dX4_become_36 : decode cX4_become 36 = .ok (.aload_n 0, 1) := by decide +kernel
theorem dX4_become_37 : decode cX4_become 37 = .ok (.dup, 1) := by decide +kernel
theorem dX4_become_38 : decode cX4_become 38 = .ok (.getfield 34, 3) := by decide +kernel
theorem dX4_become_41 : decode cX4_become 41 = .ok (.iconst 1, 1) := by decide +kernel
theorem dX4_become_42 : decode cX4_become 42 = .ok (.iadd, 1) := by decide +kernel
theorem dX4_become_43 : decode cX4_become 43 = .ok (.putfield 34, 3) := by decide +kernel
theorem dX4_become_46 : decode cX4_become 46 = .ok (.aload_n 0, 1) := by decide +kernel
theorem dX4_become_47 : decode cX4_become 47 = .ok (.getfield 9, 3) := by decide +kernel
theorem dX4_become_50 : decode cX4_become 50 = .ok (.iload_n 3, 1) := by decide +kernel
theorem dX4_become_51 : decode cX4_become 51 = .ok (.iload_n 2, 1) := by decide +kernel
theorem dX4_become_52 : decode cX4_become 52 = .ok (.iastore, 1) := by decide +kernel
theorem dX4_become_53 : decode cX4_become 53 = .ok (.aload_n 0, 1) := by decide +kernel
theorem dX4_become_54 : decode cX4_become 54 = .ok (.dup, 1) := by decide +kernel
theorem dX4_become_55 : decode cX4_become 55 = .ok (.getfield 19, 3) := by decide +kernel
theorem dX4_become_58 : decode cX4_become 58 = .ok (.iconst 1, 1) := by decide +kernel
theorem dX4_become_59 : decode cX4_become 59 = .ok (.iadd, 1) := by decide +kernel
theorem dX4_become_60 : decode cX4_become 60 = .ok (.putfield 19, 3) := by decide +kernel
theorem dX4_become_63 : decode cX4_become 63 = .ok (.aload_n 0, 1) := by decide +kernel
theorem dX4_become_64 : decode cX4_become 64 = .ok (.dup, 1) := by decide +kernel
theorem dX4_become_65 : decode cX4_become 65 = .ok (.getfield 23, 3) := by decide +kernel
theorem dX4_become_68 : decode cX4_become 68 = .ok (.aload_n 0, 1) := by decide +kernel
theorem dX4_become_69 : decode cX4_become 69 = .ok (.getfield 15, 3) := by decide +kernel
theorem dX4_become_72 : decode cX4_become 72 = .ok (.getfield 37, 3) := by decide +kernel
theorem dX4_become_75 : decode cX4_become 75 = .ok (.iload_n 3, 1) := by decide +kernel
theorem dX4_become_76 : decode cX4_become 76 = .ok (.iaload, 1) := by decide +kernel
theorem dX4_become_77 : decode cX4_become 77 = .ok (.iconst (-1), 1) := by decide +kernel
theorem dX4_become_78 : decode cX4_become 78 = .ok (.ixor, 1) := by decide +kernel
theorem dX4_become_79 : decode cX4_become 79 = .ok (.iand, 1) := by decide +kernel
theorem dX4_become_80 : decode cX4_become 80 = .ok (.putfield 23, 3) := by decide +kernel
theorem dX4_become_83 : decode cX4_become 83 = .ok (.return_, 1) := by decide +kernel
theorem dX4_hasLive_0 : decode cX4_hasLive 0 = .ok (.aload_n 0, 1) := by decide +kernel
theorem dX4_hasLive_1 : decode cX4_hasLive 1 = .ok (.getfield 23, 3) := by decide +kernel
theorem dX4_hasLive_4 : decode cX4_hasLive 4 = .ok (.iload_n 1, 1) := by decide +kernel
theorem dX4_hasLive_5 : decode cX4_hasLive 5 = .ok (.ishr, 1) := by decide +kernel
theorem dX4_hasLive_6 : decode cX4_hasLive 6 = .ok (.iconst 1, 1) := by decide +kernel
theorem dX4_hasLive_7 : decode cX4_hasLive 7 = .ok (.iand, 1) := by decide +kernel
theorem dX4_hasLive_8 : decode cX4_hasLive 8 = .ok (.ifCond .eq 7, 3) := by decide +kernel
theorem dX4_hasLive_11 : decode cX4_hasLive 11 = .ok (.iconst 1, 1) := by decide +kernel
theorem dX4_hasLive_12 : decode cX4_hasLive 12 = .ok (.goto 4, 3) := by decide +kernel
theorem dX4_hasLive_15 : decode cX4_hasLive 15 = .ok (.iconst 0, 1) := by decide +kernel
theorem dX4_hasLive_16 : decode cX4_hasLive 16 = .ok (.ireturn, 1) := by decide +kernel
theorem dX4_wasDropped_0 : decode cX4_wasDropped 0 = .ok (.aload_n 0, 1) := by decide +kernel
theorem dX4_wasDropped_1 : decode cX4_wasDropped 1 = .ok (.getfield 26, 3) := by decide +kernel
theorem dX4_wasDropped_4 : decode cX4_wasDropped 4 = .ok (.aload_n 0, 1) := by decide +kernel
theorem dX4_wasDropped_5 : decode cX4_wasDropped 5 = .ok (.getfield 23, 3) := by decide +kernel
theorem dX4_wasDropped_8 : decode cX4_wasDropped 8 = .ok (.iconst (-1), 1) := by decide +kernel
theorem dX4_wasDropped_9 : decode cX4_wasDropped 9 = .ok (.ixor, 1) := by decide +kernel
theorem dX4_wasDropped_10 : decode cX4_wasDropped 10 = .ok (.iand, 1) := by decide +kernel
theorem dX4_wasDropped_11 : decode cX4_wasDropped 11 = .ok (.iload_n 1, 1) := by decide +kernel
theorem dX4_wasDropped_12 : decode cX4_wasDropped 12 = .ok (.ishr, 1) := by decide +kernel
theorem dX4_wasDropped_13 : decode cX4_wasDropped 13 = .ok (.iconst 1, 1) := by decide +kernel
theorem dX4_wasDropped_14 : decode cX4_wasDropped 14 = .ok (.iand, 1) := by decide +kernel
theorem dX4_wasDropped_15 : decode cX4_wasDropped 15 = .ok (.ifCond .eq 7, 3) := by decide +kernel
theorem dX4_wasDropped_18 : decode cX4_wasDropped 18 = .ok (.iconst 1, 1) := by decide +kernel
theorem dX4_wasDropped_19 : decode cX4_wasDropped 19 = .ok (.goto 4, 3) := by decide +kernel
theorem dX4_wasDropped_22 : decode cX4_wasDropped 22 = .ok (.iconst 0, 1) := by decide +kernel
theorem dX4_wasDropped_23 : decode cX4_wasDropped 23 = .ok (.ireturn, 1) := by decide +kernel
theorem dX4_copyFrom_0 : decode cX4_copyFrom 0 = .ok (.aload_n 1, 1) := by decide +kernel
theorem dX4_copyFrom_1 : decode cX4_copyFrom 1 = .ok (.getfield 9, 3) := by decide +kernel
theorem dX4_copyFrom_4 : decode cX4_copyFrom 4 = .ok (.iconst 0, 1) := by decide +kernel
theorem dX4_copyFrom_5 : decode cX4_copyFrom 5 = .ok (.aload_n 0, 1) := by decide +kernel
theorem dX4_copyFrom_6 : decode cX4_copyFrom 6 = .ok (.getfield 9, 3) := by decide +kernel
theorem dX4_copyFrom_9 : decode cX4_copyFrom 9 = .ok (.iconst 0, 1) := by decide +kernel
theorem dX4_copyFrom_10 : decode cX4_copyFrom 10 = .ok (.sipush 256, 3) := by decide +kernel
theorem dX4_copyFrom_13 : decode cX4_copyFrom 13 = .ok (.invokestatic 40, 3) := by decide +kernel
theorem dX4_copyFrom_16 : decode cX4_copyFrom 16 = .ok (.aload_n 0, 1) := by decide +kernel
theorem dX4_copyFrom_17 : decode cX4_copyFrom 17 = .ok (.iload_n 2, 1) := by decide +kernel
theorem dX4_copyFrom_18 : decode cX4_copyFrom 18 = .ok (.putfield 23, 3) := by decide +kernel
theorem dX4_copyFrom_21 : decode cX4_copyFrom 21 = .ok (.aload_n 0, 1) := by decide +kernel
theorem dX4_copyFrom_22 : decode cX4_copyFrom 22 = .ok (.invokevirtual 46, 3) := by decide +kernel
theorem dX4_copyFrom_25 : decode cX4_copyFrom 25 = .ok (.return_, 1) := by decide +kernel
theorem dX4_hasSameBytesAs_0 : decode cX4_hasSameBytesAs 0 = .ok (.iconst 0, 1) := by decide +kernel
theorem dX4_hasSameBytesAs_1 : decode cX4_hasSameBytesAs 1 = .ok (.istore_n 2, 1) := by decide +kernel
theorem dX4_hasSameBytesAs_2 : decode cX4_hasSameBytesAs 2 = .ok (.iload_n 2, 1) := by decide +kernel
theorem dX4_hasSameBytesAs_3 : decode cX4_hasSameBytesAs 3 = .ok (.sipush 256, 3) := by decide +kernel
theorem dX4_hasSameBytesAs_6 : decode cX4_hasSameBytesAs 6 = .ok (.if_icmp .ge 26, 3) := by decide +kernel
theorem dX4_hasSameBytesAs_9 : decode cX4_hasSameBytesAs 9 = .ok (.aload_n 0, 1) := by decide +kernel
theorem dX4_hasSameBytesAs_10 : decode cX4_hasSameBytesAs 10 = .ok (.getfield 9, 3) := by decide +kernel
theorem dX4_hasSameBytesAs_13 : decode cX4_hasSameBytesAs 13 = .ok (.iload_n 2, 1) := by decide +kernel
theorem dX4_hasSameBytesAs_14 : decode cX4_hasSameBytesAs 14 = .ok (.iaload, 1) := by decide +kernel
theorem dX4_hasSameBytesAs_15 : decode cX4_hasSameBytesAs 15 = .ok (.aload_n 1, 1) := by decide +kernel
theorem dX4_hasSameBytesAs_16 : decode cX4_hasSameBytesAs 16 = .ok (.getfield 9, 3) := by decide +kernel
theorem dX4_hasSameBytesAs_19 : decode cX4_hasSameBytesAs 19 = .ok (.iload_n 2, 1) := by decide +kernel
theorem dX4_hasSameBytesAs_20 : decode cX4_hasSameBytesAs 20 = .ok (.iaload, 1) := by decide +kernel
theorem dX4_hasSameBytesAs_21 : decode cX4_hasSameBytesAs 21 = .ok (.if_icmp .eq 5, 3) := by decide +kernel
theorem dX4_hasSameBytesAs_24 : decode cX4_hasSameBytesAs 24 = .ok (.iconst 0, 1) := by decide +kernel
theorem dX4_hasSameBytesAs_25 : decode cX4_hasSameBytesAs 25 = .ok (.ireturn, 1) := by decide +kernel
theorem dX4_hasSameBytesAs_26 : decode cX4_hasSameBytesAs 26 = .ok (.iinc 2 1, 3) := by decide +kernel
theorem dX4_hasSameBytesAs_29 : decode cX4_hasSameBytesAs 29 = .ok (.goto (-27), 3) := by decide +kernel
theorem dX4_hasSameBytesAs_32 : decode cX4_hasSameBytesAs 32 = .ok (.iconst 1, 1) := by decide +kernel
theorem dX4_hasSameBytesAs_33 : decode cX4_hasSameBytesAs 33 = .ok (.ireturn, 1) := by decide +kernel
theorem dX4_empty_0 : decode cX4_empty 0 = .ok (.aload_n 0, 1) := by decide +kernel
theorem dX4_empty_1 : decode cX4_empty 1 = .ok (.getfield 9, 3) := by decide +kernel
theorem dX4_empty_4 : decode cX4_empty 4 = .ok (.iconst 0, 1) := by decide +kernel
theorem dX4_empty_5 : decode cX4_empty 5 = .ok (.invokestatic 49, 3) := by decide +kernel
theorem dX4_empty_8 : decode cX4_empty 8 = .ok (.aload_n 0, 1) := by decide +kernel
theorem dX4_empty_9 : decode cX4_empty 9 = .ok (.iconst 0, 1) := by decide +kernel
theorem dX4_empty_10 : decode cX4_empty 10 = .ok (.putfield 23, 3) := by decide +kernel
theorem dX4_empty_13 : decode cX4_empty 13 = .ok (.aload_n 0, 1) := by decide +kernel
theorem dX4_empty_14 : decode cX4_empty 14 = .ok (.iconst 0, 1) := by decide +kernel
theorem dX4_empty_15 : decode cX4_empty 15 = .ok (.putfield 34, 3) := by decide +kernel
theorem dX4_empty_18 : decode cX4_empty 18 = .ok (.aload_n 0, 1) := by decide +kernel
theorem dX4_empty_19 : decode cX4_empty 19 = .ok (.invokevirtual 46, 3) := by decide +kernel
theorem dX4_empty_22 : decode cX4_empty 22 = .ok (.return_, 1) := by decide +kernel
theorem dX5_init_0 : decode cX5_init 0 = .ok (.aload_n 0, 1) := by decide +kernel
theorem dX5_init_1 : decode cX5_init 1 = .ok (.invokespecial 3, 3) := by decide +kernel
theorem dX5_init_4 : decode cX5_init 4 = .ok (.aload_n 0, 1) := by decide +kernel
theorem dX5_init_5 : decode cX5_init 5 = .ok (.new 9, 3) := by decide +kernel
theorem dX5_init_8 : decode cX5_init 8 = .ok (.dup, 1) := by decide +kernel
theorem dX5_init_9 : decode cX5_init 9 = .ok (.invokespecial 11, 3) := by decide +kernel
theorem dX5_init_12 : decode cX5_init 12 = .ok (.putfield 12, 3) := by decide +kernel
theorem dX5_init_15 : decode cX5_init 15 = .ok (.aload_n 0, 1) := by decide +kernel
theorem dX5_init_16 : decode cX5_init 16 = .ok (.new 9, 3) := by decide +kernel
theorem dX5_init_19 : decode cX5_init 19 = .ok (.dup, 1) := by decide +kernel
theorem dX5_init_20 : decode cX5_init 20 = .ok (.invokespecial 11, 3) := by decide +kernel
theorem dX5_init_23 : decode cX5_init 23 = .ok (.putfield 18, 3) := by decide +kernel
theorem dX5_init_26 : decode cX5_init 26 = .ok (.return_, 1) := by decide +kernel
theorem dX5_begin_0 : decode cX5_begin 0 = .ok (.aload_n 0, 1) := by decide +kernel
theorem dX5_begin_1 : decode cX5_begin 1 = .ok (.iload_n 1, 1) := by decide +kernel
theorem dX5_begin_2 : decode cX5_begin 2 = .ok (.putfield 21, 3) := by decide +kernel
theorem dX5_begin_5 : decode cX5_begin 5 = .ok (.aload_n 0, 1) := by decide +kernel
theorem dX5_begin_6 : decode cX5_begin 6 = .ok (.iconst 0, 1) := by decide +kernel
theorem dX5_begin_7 : decode cX5_begin 7 = .ok (.putfield 25, 3) := by decide +kernel
theorem dX5_begin_10 : decode cX5_begin 10 = .ok (.aload_n 0, 1) := by decide +kernel
theorem dX5_begin_11 : decode cX5_begin 11 = .ok (.iconst 0, 1) := by decide +kernel
theorem dX5_begin_12 : decode cX5_begin 12 = .ok (.putfield 28, 3) := by decide +kernel
theorem dX5_begin_15 : decode cX5_begin 15 = .ok (.return_, 1) := by decide +kernel
theorem dX5_isWalkedForGood_0 : decode cX5_isWalkedForGood 0 = .ok (.aload_n 0, 1) := by decide +kernel
theorem dX5_isWalkedForGood_1 : decode cX5_isWalkedForGood 1 = .ok (.getfield 25, 3) := by decide +kernel
theorem dX5_isWalkedForGood_4 : decode cX5_isWalkedForGood 4 = .ok (.iconst 3, 1) := by decide +kernel
theorem dX5_isWalkedForGood_5 : decode cX5_isWalkedForGood 5 = .ok (.if_icmp .lt 7, 3) := by decide +kernel
theorem dX5_isWalkedForGood_8 : decode cX5_isWalkedForGood 8 = .ok (.iconst 1, 1) := by decide +kernel
theorem dX5_isWalkedForGood_9 : decode cX5_isWalkedForGood 9 = .ok (.goto 4, 3) := by decide +kernel
theorem dX5_isWalkedForGood_12 : decode cX5_isWalkedForGood 12 = .ok (.iconst 0, 1) := by decide +kernel
theorem dX5_isWalkedForGood_13 : decode cX5_isWalkedForGood 13 = .ok (.ireturn, 1) := by decide +kernel
theorem dX5_layAside_0 : decode cX5_layAside 0 = .ok (.aload_n 0, 1) := by decide +kernel
theorem dX5_layAside_1 : decode cX5_layAside 1 = .ok (.invokevirtual 32, 3) := by decide +kernel
theorem dX5_layAside_4 : decode cX5_layAside 4 = .ok (.aload_n 0, 1) := by decide +kernel
theorem dX5_layAside_5 : decode cX5_layAside 5 = .ok (.iconst 1, 1) := by decide +kernel
theorem dX5_layAside_6 : decode cX5_layAside 6 = .ok (.putfield 28, 3) := by decide +kernel
theorem dX5_layAside_9 : decode cX5_layAside 9 = .ok (.aload_n 0, 1) := by decide +kernel
theorem dX5_layAside_10 : decode cX5_layAside 10 = .ok (.dup, 1) := by decide +kernel
theorem dX5_layAside_11 : decode cX5_layAside 11 = .ok (.getfield 25, 3) := by decide +kernel
theorem dX5_layAside_14 : decode cX5_layAside 14 = .ok (.iconst 1, 1) := by decide +kernel
theorem dX5_layAside_15 : decode cX5_layAside 15 = .ok (.iadd, 1) := by decide +kernel
theorem dX5_layAside_16 : decode cX5_layAside 16 = .ok (.putfield 25, 3) := by decide +kernel
theorem dX5_layAside_19 : decode cX5_layAside 19 = .ok (.return_, 1) := by decide +kernel
theorem dX5_canComeBack_0 : decode cX5_canComeBack 0 = .ok (.aload_n 0, 1) := by decide +kernel
theorem dX5_canComeBack_1 : decode cX5_canComeBack 1 = .ok (.getfield 28, 3) := by decide +kernel
theorem dX5_canComeBack_4 : decode cX5_canComeBack 4 = .ok (.ifCond .eq 25, 3) := by decide +kernel
theorem dX5_canComeBack_7 : decode cX5_canComeBack 7 = .ok (.aload_n 0, 1) := by decide +kernel
theorem dX5_canComeBack_8 : decode cX5_canComeBack 8 = .ok (.invokevirtual 35, 3) := by decide +kernel
theorem dX5_canComeBack_11 : decode cX5_canComeBack 11 = .ok (.ifCond .ne 18, 3) := by decide +kernel
theorem dX5_canComeBack_14 : decode cX5_canComeBack 14 = .ok (.aload_n 0, 1) := by decide +kernel
theorem dX5_canComeBack_15 : decode cX5_canComeBack 15 = .ok (.getfield 18, 3) := by decide +kernel
theorem dX5_canComeBack_18 : decode cX5_canComeBack 18 = .ok (.aload_n 1, 1) := by decide +kernel
theorem dX5_canComeBack_19 : decode cX5_canComeBack 19 = .ok (.invokevirtual 39, 3) := by decide +kernel
theorem dX5_canComeBack_22 : decode cX5_canComeBack 22 = .ok (.ifCond .eq 7, 3) := by decide +kernel
theorem dX5_canComeBack_25 : decode cX5_canComeBack 25 = .ok (.iconst 1, 1) := by decide +kernel
theorem dX5_canComeBack_26 : decode cX5_canComeBack 26 = .ok (.goto 4, 3) := by decide +kernel
theorem dX5_canComeBack_29 : decode cX5_canComeBack 29 = .ok (.iconst 0, 1) := by decide +kernel
theorem dX5_canComeBack_30 : decode cX5_canComeBack 30 = .ok (.ireturn, 1) := by decide +kernel
theorem dX5_takeBack_0 : decode cX5_takeBack 0 = .ok (.aload_n 0, 1) := by decide +kernel
theorem dX5_takeBack_1 : decode cX5_takeBack 1 = .ok (.invokevirtual 32, 3) := by decide +kernel
theorem dX5_takeBack_4 : decode cX5_takeBack 4 = .ok (.aload_n 0, 1) := by decide +kernel
theorem dX5_takeBack_5 : decode cX5_takeBack 5 = .ok (.iconst 0, 1) := by decide +kernel
theorem dX5_takeBack_6 : decode cX5_takeBack 6 = .ok (.putfield 28, 3) := by decide +kernel
theorem dX5_takeBack_9 : decode cX5_takeBack 9 = .ok (.return_, 1) := by decide +kernel
theorem dX5_exchange_0 : decode cX5_exchange 0 = .ok (.aload_n 0, 1) := by decide +kernel
theorem dX5_exchange_1 : decode cX5_exchange 1 = .ok (.getfield 12, 3) := by decide +kernel
theorem dX5_exchange_4 : decode cX5_exchange 4 = .ok (.astore_n 1, 1) := by decide +kernel
theorem dX5_exchange_5 : decode cX5_exchange 5 = .ok (.aload_n 0, 1) := by decide +kernel
theorem dX5_exchange_6 : decode cX5_exchange 6 = .ok (.aload_n 0, 1) := by decide +kernel
theorem dX5_exchange_7 : decode cX5_exchange 7 = .ok (.getfield 18, 3) := by decide +kernel
theorem dX5_exchange_10 : decode cX5_exchange 10 = .ok (.putfield 12, 3) := by decide +kernel
theorem dX5_exchange_13 : decode cX5_exchange 13 = .ok (.aload_n 0, 1) := by decide +kernel
theorem dX5_exchange_14 : decode cX5_exchange 14 = .ok (.aload_n 1, 1) := by decide +kernel
theorem dX5_exchange_15 : decode cX5_exchange 15 = .ok (.putfield 18, 3) := by decide +kernel
theorem dX5_exchange_18 : decode cX5_exchange 18 = .ok (.return_, 1) := by decide +kernel
theorem dJ6_bitCount_0f7a4_0 : decode cJ6_bitCount_0f7a4 0 = .ok (.iload_n 0, 1) := by decide +kernel
theorem dJ6_bitCount_0f7a4_1 : decode cJ6_bitCount_0f7a4 1 = .ok (.iload_n 0, 1) := by decide +kernel
theorem dJ6_bitCount_0f7a4_2 : decode cJ6_bitCount_0f7a4 2 = .ok (.iconst 1, 1) := by decide +kernel
theorem dJ6_bitCount_0f7a4_3 : decode cJ6_bitCount_0f7a4 3 = .ok (.iushr, 1) := by decide +kernel
theorem dJ6_bitCount_0f7a4_4 : decode cJ6_bitCount_0f7a4 4 = .ok (.ldc_w 265, 3) := by decide +kernel
theorem dJ6_bitCount_0f7a4_7 : decode cJ6_bitCount_0f7a4 7 = .ok (.iand, 1) := by decide +kernel
theorem dJ6_bitCount_0f7a4_8 : decode cJ6_bitCount_0f7a4 8 = .ok (.isub, 1) := by decide +kernel
theorem dJ6_bitCount_0f7a4_9 : decode cJ6_bitCount_0f7a4 9 = .ok (.istore_n 0, 1) := by decide +kernel
theorem dJ6_bitCount_0f7a4_10 : decode cJ6_bitCount_0f7a4 10 = .ok (.iload_n 0, 1) := by decide +kernel
theorem dJ6_bitCount_0f7a4_11 : decode cJ6_bitCount_0f7a4 11 = .ok (.ldc_w 266, 3) := by decide +kernel
theorem dJ6_bitCount_0f7a4_14 : decode cJ6_bitCount_0f7a4 14 = .ok (.iand, 1) := by decide +kernel
theorem dJ6_bitCount_0f7a4_15 : decode cJ6_bitCount_0f7a4 15 = .ok (.iload_n 0, 1) := by decide +kernel
theorem dJ6_bitCount_0f7a4_16 : decode cJ6_bitCount_0f7a4 16 = .ok (.iconst 2, 1) := by decide +kernel
theorem dJ6_bitCount_0f7a4_17 : decode cJ6_bitCount_0f7a4 17 = .ok (.iushr, 1) := by decide +kernel
theorem dJ6_bitCount_0f7a4_18 : decode cJ6_bitCount_0f7a4 18 = .ok (.ldc_w 266, 3) := by decide +kernel
theorem dJ6_bitCount_0f7a4_21 : decode cJ6_bitCount_0f7a4 21 = .ok (.iand, 1) := by decide +kernel
theorem dJ6_bitCount_0f7a4_22 : decode cJ6_bitCount_0f7a4 22 = .ok (.iadd, 1) := by decide +kernel
theorem dJ6_bitCount_0f7a4_23 : decode cJ6_bitCount_0f7a4 23 = .ok (.istore_n 0, 1) := by decide +kernel
theorem dJ6_bitCount_0f7a4_24 : decode cJ6_bitCount_0f7a4 24 = .ok (.iload_n 0, 1) := by decide +kernel
theorem dJ6_bitCount_0f7a4_25 : decode cJ6_bitCount_0f7a4 25 = .ok (.iload_n 0, 1) := by decide +kernel
theorem dJ6_bitCount_0f7a4_26 : decode cJ6_bitCount_0f7a4 26 = .ok (.iconst 4, 1) := by decide +kernel
theorem dJ6_bitCount_0f7a4_27 : decode cJ6_bitCount_0f7a4 27 = .ok (.iushr, 1) := by decide +kernel
theorem dJ6_bitCount_0f7a4_28 : decode cJ6_bitCount_0f7a4 28 = .ok (.iadd, 1) := by decide +kernel
theorem dJ6_bitCount_0f7a4_29 : decode cJ6_bitCount_0f7a4 29 = .ok (.ldc_w 267, 3) := by decide +kernel
theorem dJ6_bitCount_0f7a4_32 : decode cJ6_bitCount_0f7a4 32 = .ok (.iand, 1) := by decide +kernel
theorem dJ6_bitCount_0f7a4_33 : decode cJ6_bitCount_0f7a4 33 = .ok (.istore_n 0, 1) := by decide +kernel
theorem dJ6_bitCount_0f7a4_34 : decode cJ6_bitCount_0f7a4 34 = .ok (.iload_n 0, 1) := by decide +kernel
theorem dJ6_bitCount_0f7a4_35 : decode cJ6_bitCount_0f7a4 35 = .ok (.iload_n 0, 1) := by decide +kernel
theorem dJ6_bitCount_0f7a4_36 : decode cJ6_bitCount_0f7a4 36 = .ok (.bipush 8, 2) := by decide +kernel
theorem dJ6_bitCount_0f7a4_38 : decode cJ6_bitCount_0f7a4 38 = .ok (.iushr, 1) := by decide +kernel
theorem dJ6_bitCount_0f7a4_39 : decode cJ6_bitCount_0f7a4 39 = .ok (.iadd, 1) := by decide +kernel
theorem dJ6_bitCount_0f7a4_40 : decode cJ6_bitCount_0f7a4 40 = .ok (.istore_n 0, 1) := by decide +kernel
theorem dJ6_bitCount_0f7a4_41 : decode cJ6_bitCount_0f7a4 41 = .ok (.iload_n 0, 1) := by decide +kernel
theorem dJ6_bitCount_0f7a4_42 : decode cJ6_bitCount_0f7a4 42 = .ok (.iload_n 0, 1) := by decide +kernel
theorem dJ6_bitCount_0f7a4_43 : decode cJ6_bitCount_0f7a4 43 = .ok (.bipush 16, 2) := by decide +kernel
theorem dJ6_bitCount_0f7a4_45 : decode cJ6_bitCount_0f7a4 45 = .ok (.iushr, 1) := by decide +kernel
theorem dJ6_bitCount_0f7a4_46 : decode cJ6_bitCount_0f7a4 46 = .ok (.iadd, 1) := by decide +kernel
theorem dJ6_bitCount_0f7a4_47 : decode cJ6_bitCount_0f7a4 47 = .ok (.istore_n 0, 1) := by decide +kernel
theorem dJ6_bitCount_0f7a4_48 : decode cJ6_bitCount_0f7a4 48 = .ok (.iload_n 0, 1) := by decide +kernel
theorem dJ6_bitCount_0f7a4_49 : decode cJ6_bitCount_0f7a4 49 = .ok (.bipush 63, 2) := by decide +kernel
theorem dJ6_bitCount_0f7a4_51 : decode cJ6_bitCount_0f7a4 51 = .ok (.iand, 1) := by decide +kernel
theorem dJ6_bitCount_0f7a4_52 : decode cJ6_bitCount_0f7a4 52 = .ok (.ireturn, 1) := by decide +kernel
theorem dJ7_fill_53178_0 : decode cJ7_fill_53178 0 = .ok (.iconst 0, 1) := by decide +kernel
theorem dJ7_fill_53178_1 : decode cJ7_fill_53178 1 = .ok (.istore_n 2, 1) := by decide +kernel
theorem dJ7_fill_53178_2 : decode cJ7_fill_53178 2 = .ok (.aload_n 0, 1) := by decide +kernel
theorem dJ7_fill_53178_3 : decode cJ7_fill_53178 3 = .ok (.arraylength, 1) := by decide +kernel
theorem dJ7_fill_53178_4 : decode cJ7_fill_53178 4 = .ok (.istore_n 3, 1) := by decide +kernel
theorem dJ7_fill_53178_5 : decode cJ7_fill_53178 5 = .ok (.iload_n 2, 1) := by decide +kernel
theorem dJ7_fill_53178_6 : decode cJ7_fill_53178 6 = .ok (.iload_n 3, 1) := by decide +kernel
theorem dJ7_fill_53178_7 : decode cJ7_fill_53178 7 = .ok (.if_icmp .ge 13, 3) := by decide +kernel
theorem dJ7_fill_53178_10 : decode cJ7_fill_53178 10 = .ok (.aload_n 0, 1) := by decide +kernel
theorem dJ7_fill_53178_11 : decode cJ7_fill_53178 11 = .ok (.iload_n 2, 1) := by decide +kernel
theorem dJ7_fill_53178_12 : decode cJ7_fill_53178 12 = .ok (.iload_n 1, 1) := by decide +kernel
theorem dJ7_fill_53178_13 : decode cJ7_fill_53178 13 = .ok (.iastore, 1) := by decide +kernel
theorem dJ7_fill_53178_14 : decode cJ7_fill_53178 14 = .ok (.iinc 2 1, 3) := by decide +kernel
theorem dJ7_fill_53178_17 : decode cJ7_fill_53178 17 = .ok (.goto (-12), 3) := by decide +kernel
theorem dJ7_fill_53178_20 : decode cJ7_fill_53178 20 = .ok (.return_, 1) := by decide +kernel
theorem dJ9_max_7cf53_0 : decode cJ9_max_7cf53 0 = .ok (.iload_n 0, 1) := by decide +kernel
theorem dJ9_max_7cf53_1 : decode cJ9_max_7cf53 1 = .ok (.iload_n 1, 1) := by decide +kernel
theorem dJ9_max_7cf53_2 : decode cJ9_max_7cf53 2 = .ok (.if_icmp .lt 7, 3) := by decide +kernel
theorem dJ9_max_7cf53_5 : decode cJ9_max_7cf53 5 = .ok (.iload_n 0, 1) := by decide +kernel
theorem dJ9_max_7cf53_6 : decode cJ9_max_7cf53 6 = .ok (.goto 4, 3) := by decide +kernel
theorem dJ9_max_7cf53_9 : decode cJ9_max_7cf53 9 = .ok (.iload_n 1, 1) := by decide +kernel
theorem dJ9_max_7cf53_10 : decode cJ9_max_7cf53 10 = .ok (.ireturn, 1) := by decide +kernel
end
section
theorem dX6_init_0 : decode cX6_init 0 = .ok (.aload_n 0, 1) := by decide +kernel
theorem dX6_init_1 : decode cX6_init 1 = .ok (.invokespecial 1, 3) := by decide +kernel
theorem dX6_init_4 : decode cX6_init 4 = .ok (.aload_n 0, 1) := by decide +kernel
theorem dX6_init_5 : decode cX6_init 5 = .ok (.new 7, 3) := by decide +kernel
theorem dX6_init_8 : decode cX6_init 8 = .ok (.dup, 1) := by decide +kernel
theorem dX6_init_9 : decode cX6_init 9 = .ok (.invokespecial 9, 3) := by decide +kernel
theorem dX6_init_12 : decode cX6_init 12 = .ok (.putfield 10, 3) := by decide +kernel
theorem dX6_init_15 : decode cX6_init 15 = .ok (.aload_n 0, 1) := by decide +kernel
theorem dX6_init_16 : decode cX6_init 16 = .ok (.new 16, 3) := by decide +kernel
theorem dX6_init_19 : decode cX6_init 19 = .ok (.dup, 1) := by decide +kernel
theorem dX6_init_20 : decode cX6_init 20 = .ok (.aload_n 0, 1) := by decide +kernel
theorem dX6_init_21 : decode cX6_init 21 = .ok (.getfield 10, 3) := by decide +kernel
theorem dX6_init_24 : decode cX6_init 24 = .ok (.invokespecial 18, 3) := by decide +kernel
theorem dX6_init_27 : decode cX6_init 27 = .ok (.putfield 21, 3) := by decide +kernel
theorem dX6_init_30 : decode cX6_init 30 = .ok (.aload_n 0, 1) := by decide +kernel
theorem dX6_init_31 : decode cX6_init 31 = .ok (.bipush 10, 2) := by decide +kernel
theorem dX6_init_33 : decode cX6_init 33 = .ok (.anewarray 25, 3) := by decide +kernel
theorem dX6_init_36 : decode cX6_init 36 = .ok (.putfield 27, 3) := by decide +kernel
theorem dX6_init_39 : decode cX6_init 39 = .ok (.aload_n 0, 1) := by decide +kernel
theorem dX6_init_40 : decode cX6_init 40 = .ok (.new 31, 3) := by decide +kernel
theorem dX6_init_43 : decode cX6_init 43 = .ok (.dup, 1) := by decide +kernel
theorem dX6_init_44 : decode cX6_init 44 = .ok (.invokespecial 33, 3) := by decide +kernel
theorem dX6_init_47 : decode cX6_init 47 = .ok (.putfield 34, 3) := by decide +kernel
theorem dX6_init_50 : decode cX6_init 50 = .ok (.aload_n 0, 1) := by decide +kernel
theorem dX6_init_51 : decode cX6_init 51 = .ok (.iconst 4, 1) := by decide +kernel
theorem dX6_init_52 : decode cX6_init 52 = .ok (.sipush 256, 3) := by decide +kernel
theorem dX6_init_55 : decode cX6_init 55 = .ok (.multianewarray 38 2, 4) := by decide +kernel
theorem dX6_init_59 : decode cX6_init 59 = .ok (.putfield 40, 3) := by decide +kernel
theorem dX6_init_62 : decode cX6_init 62 = .ok (.aload_n 0, 1) := by decide +kernel
theorem dX6_init_63 : decode cX6_init 63 = .ok (.new 43, 3) := by decide +kernel
theorem dX6_init_66 : decode cX6_init 66 = .ok (.dup, 1) := by decide +kernel
theorem dX6_init_67 : decode cX6_init 67 = .ok (.invokespecial 45, 3) := by decide +kernel
theorem dX6_init_70 : decode cX6_init 70 = .ok (.putfield 46, 3) := by decide +kernel
theorem dX6_init_73 : decode cX6_init 73 = .ok (.iconst 0, 1) := by decide +kernel
theorem dX6_init_74 : decode cX6_init 74 = .ok (.istore_n 1, 1) := by decide +kernel
theorem dX6_init_75 : decode cX6_init 75 = .ok (.iload_n 1, 1) := by decide +kernel
theorem dX6_init_76 : decode cX6_init 76 = .ok (.bipush 10, 2) := by decide +kernel
theorem dX6_init_78 : decode cX6_init 78 = .ok (.if_icmp .ge 22, 3) := by decide +kernel
theorem dX6_init_81 : decode cX6_init 81 = .ok (.aload_n 0, 1) := by decide +kernel
theorem dX6_init_82 : decode cX6_init 82 = .ok (.getfield 27, 3) := by decide +kernel
theorem dX6_init_85 : decode cX6_init 85 = .ok (.iload_n 1, 1) := by decide +kernel
theorem dX6_init_86 : decode cX6_init 86 = .ok (.new 25, 3) := by decide +kernel
theorem dX6_init_89 : decode cX6_init 89 = .ok (.dup, 1) := by decide +kernel
theorem dX6_init_90 : decode cX6_init 90 = .ok (.invokespecial 50, 3) := by decide +kernel
theorem dX6_init_93 : decode cX6_init 93 = .ok (.aastore, 1) := by decide +kernel
theorem dX6_init_94 : decode cX6_init 94 = .ok (.iinc 1 1, 3) := by decide +kernel
theorem dX6_init_97 : decode cX6_init 97 = .ok (.goto (-22), 3) := by decide +kernel
theorem dX6_init_100 : decode cX6_init 100 = .ok (.aload_n 0, 1) := by decide +kernel
theorem dX6_init_101 : decode cX6_init 101 = .ok (.new 51, 3) := by decide +kernel
theorem dX6_init_104 : decode cX6_init 104 = .ok (.dup, 1) := by decide +kernel
theorem dX6_init_105 : decode cX6_init 105 = .ok (.aload_n 0, 1) := by decide +kernel
theorem dX6_init_106 : decode cX6_init 106 = .ok (.getfield 21, 3) := by decide +kernel
theorem dX6_init_109 : decode cX6_init 109 = .ok (.aload_n 0, 1) := by decide +kernel
theorem dX6_init_110 : decode cX6_init 110 = .ok (.getfield 27, 3) := by decide +kernel
theorem dX6_init_113 : decode cX6_init 113 = .ok (.invokespecial 53, 3) := by decide +kernel
theorem dX6_init_116 : decode cX6_init 116 = .ok (.putfield 56, 3) := by decide +kernel
theorem dX6_init_119 : decode cX6_init 119 = .ok (.aload_n 0, 1) := by decide +kernel
theorem dX6_init_120 : decode cX6_init 120 = .ok (.new 51, 3) := by decide +kernel
theorem dX6_init_123 : decode cX6_init 123 = .ok (.dup, 1) := by decide +kernel
theorem dX6_init_124 : decode cX6_init 124 = .ok (.new 16, 3) := by decide +kernel
theorem dX6_init_127 : decode cX6_init 127 = .ok (.dup, 1) := by decide +kernel
theorem dX6_init_128 : decode cX6_init 128 = .ok (.aload_n 0, 1) := by decide +kernel
theorem dX6_init_129 : decode cX6_init 129 = .ok (.getfield 10, 3) := by decide +kernel
theorem dX6_init_132 : decode cX6_init 132 = .ok (.invokespecial 18, 3) := by decide +kernel
theorem dX6_init_135 : decode cX6_init 135 = .ok (.aload_n 0, 1) := by decide +kernel
theorem dX6_init_136 : decode cX6_init 136 = .ok (.getfield 27, 3) := by decide +kernel
theorem dX6_init_139 : decode cX6_init 139 = .ok (.invokespecial 53, 3) := by decide +kernel
theorem dX6_init_142 : decode cX6_init 142 = .ok (.putfield 60, 3) := by decide +kernel
theorem dX6_init_145 : decode cX6_init 145 = .ok (.aload_n 0, 1) := by decide +kernel
theorem dX6_init_146 : decode cX6_init 146 = .ok (.new 51, 3) := by decide +kernel
theorem dX6_init_149 : decode cX6_init 149 = .ok (.dup, 1) := by decide +kernel
theorem dX6_init_150 : decode cX6_init 150 = .ok (.new 16, 3) := by decide +kernel
theorem dX6_init_153 : decode cX6_init 153 = .ok (.dup, 1) := by decide +kernel
theorem dX6_init_154 : decode cX6_init 154 = .ok (.aload_n 0, 1) := by decide +kernel
theorem dX6_init_155 : decode cX6_init 155 = .ok (.getfield 10, 3) := by decide +kernel
theorem dX6_init_158 : decode cX6_init 158 = .ok (.invokespecial 18, 3) := by decide +kernel
theorem dX6_init_161 : decode cX6_init 161 = .ok (.aload_n 0, 1) := by decide +kernel
theorem dX6_init_162 : decode cX6_init 162 = .ok (.getfield 27, 3) := by decide +kernel
theorem dX6_init_165 : decode cX6_init 165 = .ok (.invokespecial 53, 3) := by decide +kernel
theorem dX6_init_168 : decode cX6_init 168 = .ok (.putfield 63, 3) := by decide +kernel
theorem dX6_init_171 : decode cX6_init 171 = .ok (.return_, 1) := by decide +kernel
theorem dX6_put_0 : decode cX6_put 0 = .ok (.iload_n 1, 1) := by decide +kernel
theorem dX6_put_1 : decode cX6_put 1 = .ok (.invokestatic 66, 3) := by decide +kernel
theorem dX6_put_4 : decode cX6_put 4 = .ok (.ifCond .ne 16, 3) := by decide +kernel
theorem dX6_put_7 : decode cX6_put 7 = .ok (.iload 4, 2) := by decide +kernel
theorem dX6_put_9 : decode cX6_put 9 = .ok (.iconst 1, 1) := by decide +kernel
theorem dX6_put_10 : decode cX6_put 10 = .ok (.if_icmp .lt 10, 3) := by decide +kernel
theorem dX6_put_13 : decode cX6_put 13 = .ok (.iload 4, 2) := by decide +kernel
theorem dX6_put_15 : decode cX6_put 15 = .ok (.bipush 8, 2) := by decide +kernel
theorem dX6_put_17 : decode cX6_put 17 = .ok (.if_icmp .le 6, 3) := by decide +kernel
theorem dX6_put_20 : decode cX6_put 20 = .ok (.bipush (-2), 2) := by decide +kernel
theorem dX6_put_22 : decode cX6_put 22 = .ok (.ireturn, 1) := by decide +kernel
theorem dX6_put_23 : decode cX6_put 23 = .ok (.aload_n 0, 1) := by decide +kernel
theorem dX6_put_24 : decode cX6_put 24 = .ok (.invokevirtual 70, 3) := by decide +kernel
theorem dX6_put_27 : decode cX6_put 27 = .ok (.iconst 0, 1) := by decide +kernel
theorem dX6_put_28 : decode cX6_put 28 = .ok (.istore 5, 2) := by decide +kernel
theorem dX6_put_30 : decode cX6_put 30 = .ok (.iload 5, 2) := by decide +kernel
theorem dX6_put_32 : decode cX6_put 32 = .ok (.iload 4, 2) := by decide +kernel
theorem dX6_put_34 : decode cX6_put 34 = .ok (.if_icmp .ge 37, 3) := by decide +kernel
theorem dX6_put_37 : decode cX6_put 37 = .ok (.aload_n 0, 1) := by decide +kernel
theorem dX6_put_38 : decode cX6_put 38 = .ok (.getfield 21, 3) := by decide +kernel
theorem dX6_put_41 : decode cX6_put 41 = .ok (.iload_n 1, 1) := by decide +kernel
theorem dX6_put_42 : decode cX6_put 42 = .ok (.iload 5, 2) := by decide +kernel
theorem dX6_put_44 : decode cX6_put 44 = .ok (.iadd, 1) := by decide +kernel
theorem dX6_put_45 : decode cX6_put 45 = .ok (.lload_n 2, 1) := by decide +kernel
theorem dX6_put_46 : decode cX6_put 46 = .ok (.bipush 8, 2) := by decide +kernel
theorem dX6_put_48 : decode cX6_put 48 = .ok (.iload 4, 2) := by decide +kernel
theorem dX6_put_50 : decode cX6_put 50 = .ok (.iconst 1, 1) := by decide +kernel
theorem dX6_put_51 : decode cX6_put 51 = .ok (.isub, 1) := by decide +kernel
theorem dX6_put_52 : decode cX6_put 52 = .ok (.iload 5, 2) := by decide +kernel
theorem dX6_put_54 : decode cX6_put 54 = .ok (.isub, 1) := by decide +kernel
theorem dX6_put_55 : decode cX6_put 55 = .ok (.imul, 1) := by decide +kernel
theorem dX6_put_56 : decode cX6_put 56 = .ok (.lushr, 1) := by decide +kernel
theorem dX6_put_57 : decode cX6_put 57 = .ok (.l2i, 1) := by decide +kernel
theorem dX6_put_58 : decode cX6_put 58 = .ok (.sipush 255, 3) := by decide +kernel
theorem dX6_put_61 : decode cX6_put 61 = .ok (.iand, 1) := by decide +kernel
theorem dX6_put_62 : decode cX6_put 62 = .ok (.invokevirtual 73, 3) := by decide +kernel
theorem dX6_put_65 : decode cX6_put 65 = .ok (.iinc 5 1, 3) := by decide +kernel
theorem dX6_put_68 : decode cX6_put 68 = .ok (.goto (-38), 3) := by decide +kernel
theorem dX6_put_71 : decode cX6_put 71 = .ok (.aload_n 0, 1) := by decide +kernel
theorem dX6_put_72 : decode cX6_put 72 = .ok (.invokevirtual 77, 3) := by decide +kernel
theorem dX6_put_75 : decode cX6_put 75 = .ok (.ireturn, 1) := by decide +kernel
theorem dX6_write_0 : decode cX6_write 0 = .ok (.iload_n 1, 1) := by decide +kernel
theorem dX6_write_1 : decode cX6_write 1 = .ok (.invokestatic 66, 3) := by decide +kernel
theorem dX6_write_4 : decode cX6_write 4 = .ok (.ifCond .ne 14, 3) := by decide +kernel
theorem dX6_write_7 : decode cX6_write 7 = .ok (.iload_n 2, 1) := by decide +kernel
theorem dX6_write_8 : decode cX6_write 8 = .ok (.ifCond .lt 10, 3) := by decide +kernel
theorem dX6_write_11 : decode cX6_write 11 = .ok (.iload_n 2, 1) := by decide +kernel
theorem dX6_write_12 : decode cX6_write 12 = .ok (.sipush 255, 3) := by decide +kernel
theorem dX6_write_15 : decode cX6_write 15 = .ok (.if_icmp .le 6, 3) := by decide +kernel
theorem dX6_write_18 : decode cX6_write 18 = .ok (.bipush (-2), 2) := by decide +kernel
theorem dX6_write_20 : decode cX6_write 20 = .ok (.ireturn, 1) := by decide +kernel
theorem dX6_write_21 : decode cX6_write 21 = .ok (.aload_n 0, 1) := by decide +kernel
theorem dX6_write_22 : decode cX6_write 22 = .ok (.invokevirtual 70, 3) := by decide +kernel
theorem dX6_write_25 : decode cX6_write 25 = .ok (.aload_n 0, 1) := by decide +kernel
theorem dX6_write_26 : decode cX6_write 26 = .ok (.getfield 21, 3) := by decide +kernel
theorem dX6_write_29 : decode cX6_write 29 = .ok (.iload_n 1, 1) := by decide +kernel
theorem dX6_write_30 : decode cX6_write 30 = .ok (.iload_n 2, 1) := by decide +kernel
theorem dX6_write_31 : decode cX6_write 31 = .ok (.invokevirtual 73, 3) := by decide +kernel
theorem dX6_write_34 : decode cX6_write 34 = .ok (.aload_n 0, 1) := by decide +kernel
theorem dX6_write_35 : decode cX6_write 35 = .ok (.invokevirtual 77, 3) := by decide +kernel
theorem dX6_write_38 : decode cX6_write 38 = .ok (.ireturn, 1) := by decide +kernel
theorem dX6_read_0 : decode cX6_read 0 = .ok (.iload_n 1, 1) := by decide +kernel
theorem dX6_read_1 : decode cX6_read 1 = .ok (.invokestatic 66, 3) := by decide +kernel
theorem dX6_read_4 : decode cX6_read 4 = .ok (.ifCond .eq 13, 3) := by decide +kernel
theorem dX6_read_7 : decode cX6_read 7 = .ok (.new 81, 3) := by decide +kernel
theorem dX6_read_10 : decode cX6_read 10 = .ok (.dup, 1) := by decide +kernel
theorem dX6_read_11 : decode cX6_read 11 = .ok (.ldc 83, 2) := by decide +kernel
theorem dX6_read_13 : decode cX6_read 13 = .ok (.invokespecial 85, 3) := by decide +kernel
theorem dX6_read_16 : decode cX6_read 16 = .ok (.athrow, 1) := by decide +kernel
theorem dX6_read_17 : decode cX6_read 17 = .ok (.aload_n 0, 1) := by decide +kernel
theorem dX6_read_18 : decode cX6_read 18 = .ok (.getfield 21, 3) := by decide +kernel
theorem dX6_read_21 : decode cX6_read 21 = .ok (.getfield 88, 3) := by decide +kernel
theorem dX6_read_24 : decode cX6_read 24 = .ok (.iload_n 1, 1) := by decide +kernel
theorem dX6_read_25 : decode cX6_read 25 = .ok (.iaload, 1) := by decide +kernel
theorem dX6_read_26 : decode cX6_read 26 = .ok (.ireturn, 1) := by decide +kernel
theorem dX6_routine_0 : decode cX6_routine 0 = .ok (.iload_n 1, 1) := by decide +kernel
theorem dX6_routine_1 : decode cX6_routine 1 = .ok (.invokestatic 66, 3) := by decide +kernel
theorem dX6_routine_4 : decode cX6_routine 4 = .ok (.ifCond .eq 6, 3) := by decide +kernel
theorem dX6_routine_7 : decode cX6_routine 7 = .ok (.bipush (-2), 2) := by decide +kernel
theorem dX6_routine_9 : decode cX6_routine 9 = .ok (.ireturn, 1) := by decide +kernel
theorem dX6_routine_10 : decode cX6_routine 10 = .ok (.aload_n 0, 1) := by decide +kernel
theorem dX6_routine_11 : decode cX6_routine 11 = .ok (.getfield 92, 3) := by decide +kernel
theorem dX6_routine_14 : decode cX6_routine 14 = .ok (.bipush 10, 2) := by decide +kernel
theorem dX6_routine_16 : decode cX6_routine 16 = .ok (.if_icmp .lt 6, 3) := by decide +kernel
theorem dX6_routine_19 : decode cX6_routine 19 = .ok (.bipush (-4), 2) := by decide +kernel
theorem dX6_routine_21 : decode cX6_routine 21 = .ok (.ireturn, 1) := by decide +kernel
theorem dX6_routine_22 : decode cX6_routine 22 = .ok (.aload_n 0, 1) := by decide +kernel
theorem dX6_routine_23 : decode cX6_routine 23 = .ok (.getfield 27, 3) := by decide +kernel
theorem dX6_routine_26 : decode cX6_routine 26 = .ok (.aload_n 0, 1) := by decide +kernel
theorem dX6_routine_27 : decode cX6_routine 27 = .ok (.getfield 92, 3) := by decide +kernel
theorem dX6_routine_30 : decode cX6_routine 30 = .ok (.aaload, 1) := by decide +kernel
theorem dX6_routine_31 : decode cX6_routine 31 = .ok (.iload_n 1, 1) := by decide +kernel
theorem dX6_routine_32 : decode cX6_routine 32 = .ok (.invokevirtual 96, 3) := by decide +kernel
theorem dX6_routine_35 : decode cX6_routine 35 = .ok (.aload_n 0, 1) := by decide +kernel
theorem dX6_routine_36 : decode cX6_routine 36 = .ok (.dup, 1) := by decide +kernel
theorem dX6_routine_37 : decode cX6_routine 37 = .ok (.getfield 92, 3) := by decide +kernel
theorem dX6_routine_40 : decode cX6_routine 40 = .ok (.iconst 1, 1) := by decide +kernel
theorem dX6_routine_41 : decode cX6_routine 41 = .ok (.iadd, 1) := by decide +kernel
theorem dX6_routine_42 : decode cX6_routine 42 = .ok (.putfield 92, 3) := by decide +kernel
theorem dX6_routine_45 : decode cX6_routine 45 = .ok (.aload_n 0, 1) := by decide +kernel
theorem dX6_routine_46 : decode cX6_routine 46 = .ok (.getfield 92, 3) := by decide +kernel
theorem dX6_routine_49 : decode cX6_routine 49 = .ok (.iconst 1, 1) := by decide +kernel
theorem dX6_routine_50 : decode cX6_routine 50 = .ok (.isub, 1) := by decide +kernel
theorem dX6_routine_51 : decode cX6_routine 51 = .ok (.ireturn, 1) := by decide +kernel
theorem dX6_make_0 : decode cX6_make 0 = .ok (.iconst 0, 1) := by decide +kernel
theorem dX6_make_1 : decode cX6_make 1 = .ok (.istore_n 1, 1) := by decide +kernel
theorem dX6_make_2 : decode cX6_make 2 = .ok (.iconst 0, 1) := by decide +kernel
theorem dX6_make_3 : decode cX6_make 3 = .ok (.istore_n 2, 1) := by decide +kernel
theorem dX6_make_4 : decode cX6_make 4 = .ok (.iload_n 2, 1) := by decide +kernel
theorem dX6_make_5 : decode cX6_make 5 = .ok (.aload_n 0, 1) := by decide +kernel
theorem dX6_make_6 : decode cX6_make 6 = .ok (.getfield 92, 3) := by decide +kernel
theorem dX6_make_9 : decode cX6_make 9 = .ok (.if_icmp .ge 63, 3) := by decide +kernel
theorem dX6_make_12 : decode cX6_make 12 = .ok (.aload_n 0, 1) := by decide +kernel
theorem dX6_make_13 : decode cX6_make 13 = .ok (.getfield 27, 3) := by decide +kernel
theorem dX6_make_16 : decode cX6_make 16 = .ok (.iload_n 2, 1) := by decide +kernel
theorem dX6_make_17 : decode cX6_make 17 = .ok (.aaload, 1) := by decide +kernel
theorem dX6_make_18 : decode cX6_make 18 = .ok (.astore_n 3, 1) := by decide +kernel
theorem dX6_make_19 : decode cX6_make 19 = .ok (.aload_n 0, 1) := by decide +kernel
theorem dX6_make_20 : decode cX6_make 20 = .ok (.getfield 21, 3) := by decide +kernel
theorem dX6_make_23 : decode cX6_make 23 = .ok (.iload_n 2, 1) := by decide +kernel
theorem dX6_make_24 : decode cX6_make 24 = .ok (.invokevirtual 100, 3) := by decide +kernel
theorem dX6_make_27 : decode cX6_make 27 = .ok (.ifCond .ne 39, 3) := by decide +kernel
theorem dX6_make_30 : decode cX6_make 30 = .ok (.aload_n 3, 1) := by decide +kernel
theorem dX6_make_31 : decode cX6_make 31 = .ok (.invokevirtual 103, 3) := by decide +kernel
theorem dX6_make_34 : decode cX6_make 34 = .ok (.ifCond .ne 32, 3) := by decide +kernel
theorem dX6_make_37 : decode cX6_make 37 = .ok (.aload_n 3, 1) := by decide +kernel
theorem dX6_make_38 : decode cX6_make 38 = .ok (.getfield 107, 3) := by decide +kernel
theorem dX6_make_41 : decode cX6_make 41 = .ok (.aload_n 0, 1) := by decide +kernel
theorem dX6_make_42 : decode cX6_make 42 = .ok (.getfield 21, 3) := by decide +kernel
theorem dX6_make_45 : decode cX6_make 45 = .ok (.getfield 88, 3) := by decide +kernel
theorem dX6_make_48 : decode cX6_make 48 = .ok (.aload_n 3, 1) := by decide +kernel
theorem dX6_make_49 : decode cX6_make 49 = .ok (.getfield 110, 3) := by decide +kernel
theorem dX6_make_52 : decode cX6_make 52 = .ok (.invokevirtual 113, 3) := by decide +kernel
theorem dX6_make_55 : decode cX6_make 55 = .ok (.ifCond .eq 11, 3) := by decide +kernel
theorem dX6_make_58 : decode cX6_make 58 = .ok (.aload_n 0, 1) := by decide +kernel
theorem dX6_make_59 : decode cX6_make 59 = .ok (.iload_n 2, 1) := by decide +kernel
theorem dX6_make_60 : decode cX6_make 60 = .ok (.invokevirtual 117, 3) := by decide +kernel
theorem dX6_make_63 : decode cX6_make 63 = .ok (.iinc 1 1, 3) := by decide +kernel
theorem dX6_make_66 : decode cX6_make 66 = .ok (.iinc 2 1, 3) := by decide +kernel
theorem dX6_make_69 : decode cX6_make 69 = .ok (.goto (-65), 3) := by decide +kernel
theorem dX6_make_72 : decode cX6_make 72 = .ok (.aload_n 0, 1) := by decide +kernel
theorem dX6_make_73 : decode cX6_make 73 = .ok (.dup, 1) := by decide +kernel
theorem dX6_make_74 : decode cX6_make 74 = .ok (.getfield 120, 3) := by decide +kernel
theorem dX6_make_77 : decode cX6_make 77 = .ok (.iload_n 1, 1) := by decide +kernel
theorem dX6_make_78 : decode cX6_make 78 = .ok (.iadd, 1) := by decide +kernel
theorem dX6_make_79 : decode cX6_make 79 = .ok (.putfield 120, 3) := by decide +kernel
theorem dX6_make_82 : decode cX6_make 82 = .ok (.iload_n 1, 1) := by decide +kernel
theorem dX6_make_83 : decode cX6_make 83 = .ok (.ireturn, 1) := by decide +kernel
theorem dX6_member_0 : decode cX6_member 0 = .ok (.aload_n 0, 1) := by decide +kernel
theorem dX6_member_1 : decode cX6_member 1 = .ok (.iload_n 1, 1) := by decide +kernel
theorem dX6_member_2 : decode cX6_member 2 = .ok (.invokevirtual 123, 3) := by decide +kernel
theorem dX6_member_5 : decode cX6_member 5 = .ok (.ifCond .eq 5, 3) := by decide +kernel
theorem dX6_member_8 : decode cX6_member 8 = .ok (.iconst (-1), 1) := by decide +kernel
theorem dX6_member_9 : decode cX6_member 9 = .ok (.ireturn, 1) := by decide +kernel
theorem dX6_member_10 : decode cX6_member 10 = .ok (.aload_n 0, 1) := by decide +kernel
theorem dX6_member_11 : decode cX6_member 11 = .ok (.getfield 27, 3) := by decide +kernel
theorem dX6_member_14 : decode cX6_member 14 = .ok (.iload_n 1, 1) := by decide +kernel
theorem dX6_member_15 : decode cX6_member 15 = .ok (.aaload, 1) := by decide +kernel
theorem dX6_member_16 : decode cX6_member 16 = .ok (.astore_n 3, 1) := by decide +kernel
theorem dX6_member_17 : decode cX6_member 17 = .ok (.aload_n 0, 1) := by decide +kernel
theorem dX6_member_18 : decode cX6_member 18 = .ok (.getfield 21, 3) := by decide +kernel
theorem dX6_member_21 : decode cX6_member 21 = .ok (.iload_n 1, 1) := by decide +kernel
theorem dX6_member_22 : decode cX6_member 22 = .ok (.invokevirtual 100, 3) := by decide +kernel
theorem dX6_member_25 : decode cX6_member 25 = .ok (.istore 4, 2) := by decide +kernel
theorem dX6_member_27 : decode cX6_member 27 = .ok (.iload_n 2, 1) := by decide +kernel
theorem dX6_member_28 : decode cX6_member 28 = .ok (.tableswitch 125 0 6 #[44, 55, 72, 89, 94, 107, 120], 44) := by decide +kernel
theorem dX6_member_72 : decode cX6_member 72 = .ok (.iload 4, 2) := by decide +kernel
theorem dX6_member_74 : decode cX6_member 74 = .ok (.ifCond .eq 7, 3) := by decide +kernel
theorem dX6_member_77 : decode cX6_member 77 = .ok (.iconst 1, 1) := by decide +kernel
theorem dX6_member_78 : decode cX6_member 78 = .ok (.goto 4, 3) := by decide +kernel
theorem dX6_member_81 : decode cX6_member 81 = .ok (.iconst 0, 1) := by decide +kernel
theorem dX6_member_82 : decode cX6_member 82 = .ok (.ireturn, 1) := by decide +kernel
theorem dX6_member_83 : decode cX6_member 83 = .ok (.iload 4, 2) := by decide +kernel
theorem dX6_member_85 : decode cX6_member 85 = .ok (.ifCond .eq 13, 3) := by decide +kernel
theorem dX6_member_88 : decode cX6_member 88 = .ok (.aload_n 3, 1) := by decide +kernel
theorem dX6_member_89 : decode cX6_member 89 = .ok (.getfield 107, 3) := by decide +kernel
theorem dX6_member_92 : decode cX6_member 92 = .ok (.getfield 126, 3) := by decide +kernel
theorem dX6_member_95 : decode cX6_member 95 = .ok (.goto 4, 3) := by decide +kernel
theorem dX6_member_98 : decode cX6_member 98 = .ok (.iconst 0, 1) := by decide +kernel
theorem dX6_member_99 : decode cX6_member 99 = .ok (.ireturn, 1) := by decide +kernel
theorem dX6_member_100 : decode cX6_member 100 = .ok (.iload 4, 2) := by decide +kernel
theorem dX6_member_102 : decode cX6_member 102 = .ok (.ifCond .eq 13, 3) := by decide +kernel
theorem dX6_member_105 : decode cX6_member 105 = .ok (.aload_n 3, 1) := by decide +kernel
theorem dX6_member_106 : decode cX6_member 106 = .ok (.getfield 107, 3) := by decide +kernel
theorem dX6_member_109 : decode cX6_member 109 = .ok (.invokevirtual 129, 3) := by decide +kernel
theorem dX6_member_112 : decode cX6_member 112 = .ok (.goto 4, 3) := by decide +kernel
theorem dX6_member_115 : decode cX6_member 115 = .ok (.iconst 0, 1) := by decide +kernel
theorem dX6_member_116 : decode cX6_member 116 = .ok (.ireturn, 1) := by decide +kernel
theorem dX6_member_117 : decode cX6_member 117 = .ok (.aload_n 3, 1) := by decide +kernel
theorem dX6_member_118 : decode cX6_member 118 = .ok (.getfield 132, 3) := by decide +kernel
theorem dX6_member_121 : decode cX6_member 121 = .ok (.ireturn, 1) := by decide +kernel
theorem dX6_member_122 : decode cX6_member 122 = .ok (.aload_n 3, 1) := by decide +kernel
theorem dX6_member_123 : decode cX6_member 123 = .ok (.invokevirtual 103, 3) := by decide +kernel
theorem dX6_member_126 : decode cX6_member 126 = .ok (.ifCond .eq 7, 3) := by decide +kernel
theorem dX6_member_129 : decode cX6_member 129 = .ok (.iconst 1, 1) := by decide +kernel
theorem dX6_member_130 : decode cX6_member 130 = .ok (.goto 4, 3) := by decide +kernel
theorem dX6_member_133 : decode cX6_member 133 = .ok (.iconst 0, 1) := by decide +kernel
theorem dX6_member_134 : decode cX6_member 134 = .ok (.ireturn, 1) := by decide +kernel
theorem dX6_member_135 : decode cX6_member 135 = .ok (.aload_n 3, 1) := by decide +kernel
theorem dX6_member_136 : decode cX6_member 136 = .ok (.getfield 135, 3) := by decide +kernel
theorem dX6_member_139 : decode cX6_member 139 = .ok (.ifCond .eq 7, 3) := by decide +kernel
theorem dX6_member_142 : decode cX6_member 142 = .ok (.iconst 1, 1) := by decide +kernel
theorem dX6_member_143 : decode cX6_member 143 = .ok (.goto 4, 3) := by decide +kernel
theorem dX6_member_146 : decode cX6_member 146 = .ok (.iconst 0, 1) := by decide +kernel
theorem dX6_member_147 : decode cX6_member 147 = .ok (.ireturn, 1) := by decide +kernel
theorem dX6_member_148 : decode cX6_member 148 = .ok (.aload_n 3, 1) := by decide +kernel
theorem dX6_member_149 : decode cX6_member 149 = .ok (.getfield 110, 3) := by decide +kernel
theorem dX6_member_152 : decode cX6_member 152 = .ok (.ireturn, 1) := by decide +kernel
theorem dX6_member_153 : decode cX6_member 153 = .ok (.bipush (-2), 2) := by decide +kernel
theorem dX6_member_155 : decode cX6_member 155 = .ok (.ireturn, 1) := by decide +kernel
theorem dX6_head_0 : decode cX6_head 0 = .ok (.aload_n 0, 1) := by decide +kernel
theorem dX6_head_1 : decode cX6_head 1 = .ok (.iload_n 1, 1) := by decide +kernel
theorem dX6_head_2 : decode cX6_head 2 = .ok (.invokevirtual 123, 3) := by decide +kernel
theorem dX6_head_5 : decode cX6_head 5 = .ok (.ifCond .eq 5, 3) := by decide +kernel
theorem dX6_head_8 : decode cX6_head 8 = .ok (.iconst (-1), 1) := by decide +kernel
theorem dX6_head_9 : decode cX6_head 9 = .ok (.ireturn, 1) := by decide +kernel
theorem dX6_head_10 : decode cX6_head 10 = .ok (.aload_n 0, 1) := by decide +kernel
theorem dX6_head_11 : decode cX6_head 11 = .ok (.getfield 21, 3) := by decide +kernel
theorem dX6_head_14 : decode cX6_head 14 = .ok (.iload_n 1, 1) := by decide +kernel
theorem dX6_head_15 : decode cX6_head 15 = .ok (.invokevirtual 100, 3) := by decide +kernel
theorem dX6_head_18 : decode cX6_head 18 = .ok (.ifCond .ne 13, 3) := by decide +kernel
theorem dX6_head_21 : decode cX6_head 21 = .ok (.new 139, 3) := by decide +kernel
theorem dX6_head_24 : decode cX6_head 24 = .ok (.dup, 1) := by decide +kernel
theorem dX6_head_25 : decode cX6_head 25 = .ok (.ldc 141, 2) := by decide +kernel
theorem dX6_head_27 : decode cX6_head 27 = .ok (.invokespecial 143, 3) := by decide +kernel
theorem dX6_head_30 : decode cX6_head 30 = .ok (.athrow, 1) := by decide +kernel
theorem dX6_head_31 : decode cX6_head 31 = .ok (.aload_n 0, 1) := by decide +kernel
theorem dX6_head_32 : decode cX6_head 32 = .ok (.getfield 27, 3) := by decide +kernel
theorem dX6_head_35 : decode cX6_head 35 = .ok (.iload_n 1, 1) := by decide +kernel
theorem dX6_head_36 : decode cX6_head 36 = .ok (.aaload, 1) := by decide +kernel
theorem dX6_head_37 : decode cX6_head 37 = .ok (.getfield 107, 3) := by decide +kernel
theorem dX6_head_40 : decode cX6_head 40 = .ok (.astore_n 3, 1) := by decide +kernel
theorem dX6_head_41 : decode cX6_head 41 = .ok (.iload_n 2, 1) := by decide +kernel
theorem dX6_head_42 : decode cX6_head 42 = .ok (.ifCond .lt 11, 3) := by decide +kernel
theorem dX6_head_45 : decode cX6_head 45 = .ok (.iload_n 2, 1) := by decide +kernel
theorem dX6_head_46 : decode cX6_head 46 = .ok (.aload_n 3, 1) := by decide +kernel
theorem dX6_head_47 : decode cX6_head 47 = .ok (.getfield 126, 3) := by decide +kernel
theorem dX6_head_50 : decode cX6_head 50 = .ok (.if_icmp .lt 13, 3) := by decide +kernel
theorem dX6_head_53 : decode cX6_head 53 = .ok (.new 81, 3) := by decide +kernel
theorem dX6_head_56 : decode cX6_head 56 = .ok (.dup, 1) := by decide +kernel
theorem dX6_head_57 : decode cX6_head 57 = .ok (.ldc 144, 2) := by decide +kernel
theorem dX6_head_59 : decode cX6_head 59 = .ok (.invokespecial 85, 3) := by decide +kernel
theorem dX6_head_62 : decode cX6_head 62 = .ok (.athrow, 1) := by decide +kernel
theorem dX6_head_63 : decode cX6_head 63 = .ok (.aload_n 3, 1) := by decide +kernel
theorem dX6_head_64 : decode cX6_head 64 = .ok (.getfield 146, 3) := by decide +kernel
theorem dX6_head_67 : decode cX6_head 67 = .ok (.iload_n 2, 1) := by decide +kernel
theorem dX6_head_68 : decode cX6_head 68 = .ok (.iaload, 1) := by decide +kernel
theorem dX6_head_69 : decode cX6_head 69 = .ok (.ireturn, 1) := by decide +kernel
theorem dX6_makeable_0 : decode cX6_makeable 0 = .ok (.aload_n 0, 1) := by decide +kernel
theorem dX6_makeable_1 : decode cX6_makeable 1 = .ok (.iload_n 1, 1) := by decide +kernel
theorem dX6_makeable_2 : decode cX6_makeable 2 = .ok (.invokevirtual 123, 3) := by decide +kernel
theorem dX6_makeable_5 : decode cX6_makeable 5 = .ok (.ifCond .eq 5, 3) := by decide +kernel
theorem dX6_makeable_8 : decode cX6_makeable 8 = .ok (.iconst (-1), 1) := by decide +kernel
theorem dX6_makeable_9 : decode cX6_makeable 9 = .ok (.ireturn, 1) := by decide +kernel
theorem dX6_makeable_10 : decode cX6_makeable 10 = .ok (.aload_n 0, 1) := by decide +kernel
theorem dX6_makeable_11 : decode cX6_makeable 11 = .ok (.getfield 46, 3) := by decide +kernel
theorem dX6_makeable_14 : decode cX6_makeable 14 = .ok (.aload_n 0, 1) := by decide +kernel
theorem dX6_makeable_15 : decode cX6_makeable 15 = .ok (.getfield 21, 3) := by decide +kernel
theorem dX6_makeable_18 : decode cX6_makeable 18 = .ok (.getfield 88, 3) := by decide +kernel
theorem dX6_makeable_21 : decode cX6_makeable 21 = .ok (.aload_n 0, 1) := by decide +kernel
theorem dX6_makeable_22 : decode cX6_makeable 22 = .ok (.getfield 27, 3) := by decide +kernel
theorem dX6_makeable_25 : decode cX6_makeable 25 = .ok (.iload_n 1, 1) := by decide +kernel
theorem dX6_makeable_26 : decode cX6_makeable 26 = .ok (.aaload, 1) := by decide +kernel
theorem dX6_makeable_27 : decode cX6_makeable 27 = .ok (.getfield 110, 3) := by decide +kernel
theorem dX6_makeable_30 : decode cX6_makeable 30 = .ok (.invokevirtual 113, 3) := by decide +kernel
theorem dX6_makeable_33 : decode cX6_makeable 33 = .ok (.ifCond .eq 7, 3) := by decide +kernel
theorem dX6_makeable_36 : decode cX6_makeable 36 = .ok (.iconst 1, 1) := by decide +kernel
theorem dX6_makeable_37 : decode cX6_makeable 37 = .ok (.goto 4, 3) := by decide +kernel
theorem dX6_makeable_40 : decode cX6_makeable 40 = .ok (.iconst 0, 1) := by decide +kernel
theorem dX6_makeable_41 : decode cX6_makeable 41 = .ok (.ireturn, 1) := by decide +kernel
theorem dX6_run_0 : decode cX6_run 0 = .ok (.aload_n 0, 1) := by decide +kernel
theorem dX6_run_1 : decode cX6_run 1 = .ok (.iload_n 1, 1) := by decide +kernel
theorem dX6_run_2 : decode cX6_run 2 = .ok (.iload 4, 2) := by decide +kernel
theorem dX6_run_4 : decode cX6_run 4 = .ok (.invokevirtual 149, 3) := by decide +kernel
theorem dX6_run_7 : decode cX6_run 7 = .ok (.istore 5, 2) := by decide +kernel
theorem dX6_run_9 : decode cX6_run 9 = .ok (.iload 5, 2) := by decide +kernel
theorem dX6_run_11 : decode cX6_run 11 = .ok (.ifCond .eq 6, 3) := by decide +kernel
theorem dX6_run_14 : decode cX6_run 14 = .ok (.iload 5, 2) := by decide +kernel
theorem dX6_run_16 : decode cX6_run 16 = .ok (.ireturn, 1) := by decide +kernel
theorem dX6_run_17 : decode cX6_run 17 = .ok (.aload_n 0, 1) := by decide +kernel
theorem dX6_run_18 : decode cX6_run 18 = .ok (.invokevirtual 70, 3) := by decide +kernel
theorem dX6_run_21 : decode cX6_run 21 = .ok (.aload_n 0, 1) := by decide +kernel
theorem dX6_run_22 : decode cX6_run 22 = .ok (.getfield 56, 3) := by decide +kernel
theorem dX6_run_25 : decode cX6_run 25 = .ok (.iload_n 1, 1) := by decide +kernel
theorem dX6_run_26 : decode cX6_run 26 = .ok (.iload_n 2, 1) := by decide +kernel
theorem dX6_run_27 : decode cX6_run 27 = .ok (.iload_n 3, 1) := by decide +kernel
theorem dX6_run_28 : decode cX6_run 28 = .ok (.invokevirtual 153, 3) := by decide +kernel
theorem dX6_run_31 : decode cX6_run 31 = .ok (.aload_n 0, 1) := by decide +kernel
theorem dX6_run_32 : decode cX6_run 32 = .ok (.getfield 56, 3) := by decide +kernel
theorem dX6_run_35 : decode cX6_run 35 = .ok (.iload 4, 2) := by decide +kernel
theorem dX6_run_37 : decode cX6_run 37 = .ok (.aload_n 0, 1) := by decide +kernel
theorem dX6_run_38 : decode cX6_run 38 = .ok (.getfield 92, 3) := by decide +kernel
theorem dX6_run_41 : decode cX6_run 41 = .ok (.invokevirtual 156, 3) := by decide +kernel
theorem dX6_run_44 : decode cX6_run 44 = .ok (.aload_n 0, 1) := by decide +kernel
theorem dX6_run_45 : decode cX6_run 45 = .ok (.invokevirtual 77, 3) := by decide +kernel
theorem dX6_run_48 : decode cX6_run 48 = .ok (.pop, 1) := by decide +kernel
theorem dX6_run_49 : decode cX6_run 49 = .ok (.aload_n 0, 1) := by decide +kernel
theorem dX6_run_50 : decode cX6_run 50 = .ok (.dup, 1) := by decide +kernel
theorem dX6_run_51 : decode cX6_run 51 = .ok (.getfield 159, 3) := by decide +kernel
theorem dX6_run_54 : decode cX6_run 54 = .ok (.aload_n 0, 1) := by decide +kernel
theorem dX6_run_55 : decode cX6_run 55 = .ok (.getfield 56, 3) := by decide +kernel
theorem dX6_run_58 : decode cX6_run 58 = .ok (.getfield 162, 3) := by decide +kernel
theorem dX6_run_61 : decode cX6_run 61 = .ok (.iadd, 1) := by decide +kernel
theorem dX6_run_62 : decode cX6_run 62 = .ok (.putfield 159, 3) := by decide +kernel
theorem dX6_run_65 : decode cX6_run 65 = .ok (.aload_n 0, 1) := by decide +kernel
theorem dX6_run_66 : decode cX6_run 66 = .ok (.dup, 1) := by decide +kernel
theorem dX6_run_67 : decode cX6_run 67 = .ok (.getfield 165, 3) := by decide +kernel
theorem dX6_run_70 : decode cX6_run 70 = .ok (.aload_n 0, 1) := by decide +kernel
theorem dX6_run_71 : decode cX6_run 71 = .ok (.getfield 56, 3) := by decide +kernel
theorem dX6_run_74 : decode cX6_run 74 = .ok (.getfield 168, 3) := by decide +kernel
theorem dX6_run_77 : decode cX6_run 77 = .ok (.iadd, 1) := by decide +kernel
theorem dX6_run_78 : decode cX6_run 78 = .ok (.putfield 165, 3) := by decide +kernel
theorem dX6_run_81 : decode cX6_run 81 = .ok (.aload_n 0, 1) := by decide +kernel
theorem dX6_run_82 : decode cX6_run 82 = .ok (.getfield 56, 3) := by decide +kernel
theorem dX6_run_85 : decode cX6_run 85 = .ok (.getfield 171, 3) := by decide +kernel
theorem dX6_run_88 : decode cX6_run 88 = .ok (.ireturn, 1) := by decide +kernel
theorem dX6_ran_0 : decode cX6_ran 0 = .ok (.iload_n 1, 1) := by decide +kernel
theorem dX6_ran_1 : decode cX6_ran 1 = .ok (.tableswitch 123 0 8 #[51, 59, 67, 75, 83, 91, 99, 107, 115], 51) := by decide +kernel
theorem dX6_ran_52 : decode cX6_ran 52 = .ok (.aload_n 0, 1) := by decide +kernel
theorem dX6_ran_53 : decode cX6_ran 53 = .ok (.getfield 56, 3) := by decide +kernel
theorem dX6_ran_56 : decode cX6_ran 56 = .ok (.getfield 174, 3) := by decide +kernel
theorem dX6_ran_59 : decode cX6_ran 59 = .ok (.ireturn, 1) := by decide +kernel
theorem dX6_ran_60 : decode cX6_ran 60 = .ok (.aload_n 0, 1) := by decide +kernel
theorem dX6_ran_61 : decode cX6_ran 61 = .ok (.getfield 56, 3) := by decide +kernel
theorem dX6_ran_64 : decode cX6_ran 64 = .ok (.getfield 177, 3) := by decide +kernel
theorem dX6_ran_67 : decode cX6_ran 67 = .ok (.ireturn, 1) := by decide +kernel
theorem dX6_ran_68 : decode cX6_ran 68 = .ok (.aload_n 0, 1) := by decide +kernel
theorem dX6_ran_69 : decode cX6_ran 69 = .ok (.getfield 56, 3) := by decide +kernel
theorem dX6_ran_72 : decode cX6_ran 72 = .ok (.invokevirtual 180, 3) := by decide +kernel
theorem dX6_ran_75 : decode cX6_ran 75 = .ok (.ireturn, 1) := by decide +kernel
theorem dX6_ran_76 : decode cX6_ran 76 = .ok (.aload_n 0, 1) := by decide +kernel
theorem dX6_ran_77 : decode cX6_ran 77 = .ok (.getfield 56, 3) := by decide +kernel
theorem dX6_ran_80 : decode cX6_ran 80 = .ok (.getfield 162, 3) := by decide +kernel
theorem dX6_ran_83 : decode cX6_ran 83 = .ok (.ireturn, 1) := by decide +kernel
theorem dX6_ran_84 : decode cX6_ran 84 = .ok (.aload_n 0, 1) := by decide +kernel
theorem dX6_ran_85 : decode cX6_ran 85 = .ok (.getfield 56, 3) := by decide +kernel
theorem dX6_ran_88 : decode cX6_ran 88 = .ok (.getfield 168, 3) := by decide +kernel
theorem dX6_ran_91 : decode cX6_ran 91 = .ok (.ireturn, 1) := by decide +kernel
theorem dX6_ran_92 : decode cX6_ran 92 = .ok (.aload_n 0, 1) := by decide +kernel
theorem dX6_ran_93 : decode cX6_ran 93 = .ok (.getfield 56, 3) := by decide +kernel
theorem dX6_ran_96 : decode cX6_ran 96 = .ok (.getfield 183, 3) := by decide +kernel
theorem dX6_ran_99 : decode cX6_ran 99 = .ok (.ireturn, 1) := by decide +kernel
theorem dX6_ran_100 : decode cX6_ran 100 = .ok (.aload_n 0, 1) := by decide +kernel
theorem dX6_ran_101 : decode cX6_ran 101 = .ok (.getfield 56, 3) := by decide +kernel
theorem dX6_ran_104 : decode cX6_ran 104 = .ok (.getfield 186, 3) := by decide +kernel
theorem dX6_ran_107 : decode cX6_ran 107 = .ok (.ireturn, 1) := by decide +kernel
theorem dX6_ran_108 : decode cX6_ran 108 = .ok (.aload_n 0, 1) := by decide +kernel
theorem dX6_ran_109 : decode cX6_ran 109 = .ok (.getfield 56, 3) := by decide +kernel
theorem dX6_ran_112 : decode cX6_ran 112 = .ok (.getfield 187, 3) := by decide +kernel
theorem dX6_ran_115 : decode cX6_ran 115 = .ok (.ireturn, 1) := by decide +kernel
theorem dX6_ran_116 : decode cX6_ran 116 = .ok (.aload_n 0, 1) := by decide +kernel
theorem dX6_ran_117 : decode cX6_ran 117 = .ok (.getfield 56, 3) := by decide +kernel
theorem dX6_ran_120 : decode cX6_ran 120 = .ok (.getfield 190, 3) := by decide +kernel
theorem dX6_ran_123 : decode cX6_ran 123 = .ok (.ireturn, 1) := by decide +kernel
theorem dX6_ran_124 : decode cX6_ran 124 = .ok (.ldc 193, 2) := by decide +kernel
theorem dX6_ran_126 : decode cX6_ran 126 = .ok (.ireturn, 1) := by decide +kernel
theorem dX6_alike_0 : decode cX6_alike 0 = .ok (.aload_n 0, 1) := by decide +kernel
theorem dX6_alike_1 : decode cX6_alike 1 = .ok (.iload_n 1, 1) := by decide +kernel
theorem dX6_alike_2 : decode cX6_alike 2 = .ok (.iload 4, 2) := by decide +kernel
theorem dX6_alike_4 : decode cX6_alike 4 = .ok (.invokevirtual 149, 3) := by decide +kernel
theorem dX6_alike_7 : decode cX6_alike 7 = .ok (.istore 5, 2) := by decide +kernel
theorem dX6_alike_9 : decode cX6_alike 9 = .ok (.iload 5, 2) := by decide +kernel
theorem dX6_alike_11 : decode cX6_alike 11 = .ok (.ifCond .eq 6, 3) := by decide +kernel
theorem dX6_alike_14 : decode cX6_alike 14 = .ok (.iload 5, 2) := by decide +kernel
theorem dX6_alike_16 : decode cX6_alike 16 = .ok (.ireturn, 1) := by decide +kernel
theorem dX6_alike_17 : decode cX6_alike 17 = .ok (.aload_n 0, 1) := by decide +kernel
theorem dX6_alike_18 : decode cX6_alike 18 = .ok (.getfield 60, 3) := by decide +kernel
theorem dX6_alike_21 : decode cX6_alike 21 = .ok (.getfield 194, 3) := by decide +kernel
theorem dX6_alike_24 : decode cX6_alike 24 = .ok (.aload_n 0, 1) := by decide +kernel
theorem dX6_alike_25 : decode cX6_alike 25 = .ok (.getfield 21, 3) := by decide +kernel
theorem dX6_alike_28 : decode cX6_alike 28 = .ok (.aload_n 0, 1) := by decide +kernel
theorem dX6_alike_29 : decode cX6_alike 29 = .ok (.getfield 21, 3) := by decide +kernel
theorem dX6_alike_32 : decode cX6_alike 32 = .ok (.getfield 195, 3) := by decide +kernel
theorem dX6_alike_35 : decode cX6_alike 35 = .ok (.invokevirtual 198, 3) := by decide +kernel
theorem dX6_alike_38 : decode cX6_alike 38 = .ok (.aload_n 0, 1) := by decide +kernel
theorem dX6_alike_39 : decode cX6_alike 39 = .ok (.getfield 60, 3) := by decide +kernel
theorem dX6_alike_42 : decode cX6_alike 42 = .ok (.iload_n 1, 1) := by decide +kernel
theorem dX6_alike_43 : decode cX6_alike 43 = .ok (.iload_n 2, 1) := by decide +kernel
theorem dX6_alike_44 : decode cX6_alike 44 = .ok (.iload_n 3, 1) := by decide +kernel
theorem dX6_alike_45 : decode cX6_alike 45 = .ok (.invokevirtual 153, 3) := by decide +kernel
theorem dX6_alike_48 : decode cX6_alike 48 = .ok (.aload_n 0, 1) := by decide +kernel
theorem dX6_alike_49 : decode cX6_alike 49 = .ok (.getfield 60, 3) := by decide +kernel
theorem dX6_alike_52 : decode cX6_alike 52 = .ok (.iload 4, 2) := by decide +kernel
theorem dX6_alike_54 : decode cX6_alike 54 = .ok (.aload_n 0, 1) := by decide +kernel
theorem dX6_alike_55 : decode cX6_alike 55 = .ok (.getfield 92, 3) := by decide +kernel
theorem dX6_alike_58 : decode cX6_alike 58 = .ok (.invokevirtual 156, 3) := by decide +kernel
theorem dX6_alike_61 : decode cX6_alike 61 = .ok (.aload_n 0, 1) := by decide +kernel
theorem dX6_alike_62 : decode cX6_alike 62 = .ok (.getfield 63, 3) := by decide +kernel
theorem dX6_alike_65 : decode cX6_alike 65 = .ok (.getfield 194, 3) := by decide +kernel
theorem dX6_alike_68 : decode cX6_alike 68 = .ok (.aload_n 0, 1) := by decide +kernel
theorem dX6_alike_69 : decode cX6_alike 69 = .ok (.getfield 21, 3) := by decide +kernel
theorem dX6_alike_72 : decode cX6_alike 72 = .ok (.iconst 0, 1) := by decide +kernel
theorem dX6_alike_73 : decode cX6_alike 73 = .ok (.invokevirtual 198, 3) := by decide +kernel
theorem dX6_alike_76 : decode cX6_alike 76 = .ok (.aload_n 0, 1) := by decide +kernel
theorem dX6_alike_77 : decode cX6_alike 77 = .ok (.getfield 63, 3) := by decide +kernel
theorem dX6_alike_80 : decode cX6_alike 80 = .ok (.iload_n 1, 1) := by decide +kernel
theorem dX6_alike_81 : decode cX6_alike 81 = .ok (.iload_n 2, 1) := by decide +kernel
theorem dX6_alike_82 : decode cX6_alike 82 = .ok (.iload_n 3, 1) := by decide +kernel
theorem dX6_alike_83 : decode cX6_alike 83 = .ok (.invokevirtual 153, 3) := by decide +kernel
theorem dX6_alike_86 : decode cX6_alike 86 = .ok (.aload_n 0, 1) := by decide +kernel
theorem dX6_alike_87 : decode cX6_alike 87 = .ok (.getfield 63, 3) := by decide +kernel
theorem dX6_alike_90 : decode cX6_alike 90 = .ok (.iload 4, 2) := by decide +kernel
theorem dX6_alike_92 : decode cX6_alike 92 = .ok (.aload_n 0, 1) := by decide +kernel
theorem dX6_alike_93 : decode cX6_alike 93 = .ok (.getfield 92, 3) := by decide +kernel
theorem dX6_alike_96 : decode cX6_alike 96 = .ok (.invokevirtual 156, 3) := by decide +kernel
theorem dX6_alike_99 : decode cX6_alike 99 = .ok (.aload_n 0, 1) := by decide +kernel
theorem dX6_alike_100 : decode cX6_alike 100 = .ok (.getfield 60, 3) := by decide +kernel
theorem dX6_alike_103 : decode cX6_alike 103 = .ok (.aload_n 0, 1) := by decide +kernel
theorem dX6_alike_104 : decode cX6_alike 104 = .ok (.getfield 63, 3) := by decide +kernel
theorem dX6_alike_107 : decode cX6_alike 107 = .ok (.invokevirtual 202, 3) := by decide +kernel
theorem dX6_alike_110 : decode cX6_alike 110 = .ok (.ifCond .eq 7, 3) := by decide +kernel
theorem dX6_alike_113 : decode cX6_alike 113 = .ok (.iconst 1, 1) := by decide +kernel
theorem dX6_alike_114 : decode cX6_alike 114 = .ok (.goto 4, 3) := by decide +kernel
theorem dX6_alike_117 : decode cX6_alike 117 = .ok (.iconst 0, 1) := by decide +kernel
theorem dX6_alike_118 : decode cX6_alike 118 = .ok (.ireturn, 1) := by decide +kernel
theorem dX6_page_0 : decode cX6_page 0 = .ok (.iload_n 1, 1) := by decide +kernel
theorem dX6_page_1 : decode cX6_page 1 = .ok (.ifCond .lt 9, 3) := by decide +kernel
theorem dX6_page_4 : decode cX6_page 4 = .ok (.iload_n 1, 1) := by decide +kernel
theorem dX6_page_5 : decode cX6_page 5 = .ok (.bipush 16, 2) := by decide +kernel
theorem dX6_page_7 : decode cX6_page 7 = .ok (.if_icmp .lt 6, 3) := by decide +kernel
theorem dX6_page_10 : decode cX6_page 10 = .ok (.bipush (-2), 2) := by decide +kernel
theorem dX6_page_12 : decode cX6_page 12 = .ok (.ireturn, 1) := by decide +kernel
theorem dX6_page_13 : decode cX6_page 13 = .ok (.aload_n 0, 1) := by decide +kernel
theorem dX6_page_14 : decode cX6_page 14 = .ok (.getfield 10, 3) := by decide +kernel
theorem dX6_page_17 : decode cX6_page 17 = .ok (.getfield 206, 3) := by decide +kernel
theorem dX6_page_20 : decode cX6_page 20 = .ok (.iload_n 1, 1) := by decide +kernel
theorem dX6_page_21 : decode cX6_page 21 = .ok (.iaload, 1) := by decide +kernel
theorem dX6_page_22 : decode cX6_page 22 = .ok (.invokestatic 209, 3) := by decide +kernel
theorem dX6_page_25 : decode cX6_page 25 = .ok (.ireturn, 1) := by decide +kernel
theorem dX6_snapshot_0 : decode cX6_snapshot 0 = .ok (.aload_n 0, 1) := by decide +kernel
theorem dX6_snapshot_1 : decode cX6_snapshot 1 = .ok (.getfield 215, 3) := by decide +kernel
theorem dX6_snapshot_4 : decode cX6_snapshot 4 = .ok (.iconst 4, 1) := by decide +kernel
theorem dX6_snapshot_5 : decode cX6_snapshot 5 = .ok (.if_icmp .lt 6, 3) := by decide +kernel
theorem dX6_snapshot_8 : decode cX6_snapshot 8 = .ok (.bipush (-4), 2) := by decide +kernel
theorem dX6_snapshot_10 : decode cX6_snapshot 10 = .ok (.ireturn, 1) := by decide +kernel
theorem dX6_snapshot_11 : decode cX6_snapshot 11 = .ok (.aload_n 0, 1) := by decide +kernel
theorem dX6_snapshot_12 : decode cX6_snapshot 12 = .ok (.getfield 21, 3) := by decide +kernel
theorem dX6_snapshot_15 : decode cX6_snapshot 15 = .ok (.getfield 88, 3) := by decide +kernel
theorem dX6_snapshot_18 : decode cX6_snapshot 18 = .ok (.iconst 0, 1) := by decide +kernel
theorem dX6_snapshot_19 : decode cX6_snapshot 19 = .ok (.aload_n 0, 1) := by decide +kernel
theorem dX6_snapshot_20 : decode cX6_snapshot 20 = .ok (.getfield 40, 3) := by decide +kernel
theorem dX6_snapshot_23 : decode cX6_snapshot 23 = .ok (.aload_n 0, 1) := by decide +kernel
theorem dX6_snapshot_24 : decode cX6_snapshot 24 = .ok (.getfield 215, 3) := by decide +kernel
theorem dX6_snapshot_27 : decode cX6_snapshot 27 = .ok (.aaload, 1) := by decide +kernel
theorem dX6_snapshot_28 : decode cX6_snapshot 28 = .ok (.iconst 0, 1) := by decide +kernel
theorem dX6_snapshot_29 : decode cX6_snapshot 29 = .ok (.sipush 256, 3) := by decide +kernel
theorem dX6_snapshot_32 : decode cX6_snapshot 32 = .ok (.invokestatic 218, 3) := by decide +kernel
theorem dX6_snapshot_35 : decode cX6_snapshot 35 = .ok (.aload_n 0, 1) := by decide +kernel
theorem dX6_snapshot_36 : decode cX6_snapshot 36 = .ok (.dup, 1) := by decide +kernel
theorem dX6_snapshot_37 : decode cX6_snapshot 37 = .ok (.getfield 215, 3) := by decide +kernel
theorem dX6_snapshot_40 : decode cX6_snapshot 40 = .ok (.iconst 1, 1) := by decide +kernel
theorem dX6_snapshot_41 : decode cX6_snapshot 41 = .ok (.iadd, 1) := by decide +kernel
theorem dX6_snapshot_42 : decode cX6_snapshot 42 = .ok (.putfield 215, 3) := by decide +kernel
theorem dX6_snapshot_45 : decode cX6_snapshot 45 = .ok (.aload_n 0, 1) := by decide +kernel
theorem dX6_snapshot_46 : decode cX6_snapshot 46 = .ok (.getfield 215, 3) := by decide +kernel
theorem dX6_snapshot_49 : decode cX6_snapshot 49 = .ok (.iconst 1, 1) := by decide +kernel
theorem dX6_snapshot_50 : decode cX6_snapshot 50 = .ok (.isub, 1) := by decide +kernel
theorem dX6_snapshot_51 : decode cX6_snapshot 51 = .ok (.ireturn, 1) := by decide +kernel
theorem dX6_restore_0 : decode cX6_restore 0 = .ok (.iload_n 1, 1) := by decide +kernel
theorem dX6_restore_1 : decode cX6_restore 1 = .ok (.ifCond .lt 11, 3) := by decide +kernel
theorem dX6_restore_4 : decode cX6_restore 4 = .ok (.iload_n 1, 1) := by decide +kernel
theorem dX6_restore_5 : decode cX6_restore 5 = .ok (.aload_n 0, 1) := by decide +kernel
theorem dX6_restore_6 : decode cX6_restore 6 = .ok (.getfield 215, 3) := by decide +kernel
theorem dX6_restore_9 : decode cX6_restore 9 = .ok (.if_icmp .lt 5, 3) := by decide +kernel
theorem dX6_restore_12 : decode cX6_restore 12 = .ok (.iconst (-1), 1) := by decide +kernel
theorem dX6_restore_13 : decode cX6_restore 13 = .ok (.ireturn, 1) := by decide +kernel
theorem dX6_restore_14 : decode cX6_restore 14 = .ok (.aload_n 0, 1) := by decide +kernel
theorem dX6_restore_15 : decode cX6_restore 15 = .ok (.aload_n 0, 1) := by decide +kernel
theorem dX6_restore_16 : decode cX6_restore 16 = .ok (.getfield 40, 3) := by decide +kernel
theorem dX6_restore_19 : decode cX6_restore 19 = .ok (.iload_n 1, 1) := by decide +kernel
theorem dX6_restore_20 : decode cX6_restore 20 = .ok (.aaload, 1) := by decide +kernel
theorem dX6_restore_21 : decode cX6_restore 21 = .ok (.invokevirtual 224, 3) := by decide +kernel
theorem dX6_restore_24 : decode cX6_restore 24 = .ok (.ireturn, 1) := by decide +kernel
theorem dX6_undo_0 : decode cX6_undo 0 = .ok (.aload_n 0, 1) := by decide +kernel
theorem dX6_undo_1 : decode cX6_undo 1 = .ok (.getfield 34, 3) := by decide +kernel
theorem dX6_undo_4 : decode cX6_undo 4 = .ok (.getfield 228, 3) := by decide +kernel
theorem dX6_undo_7 : decode cX6_undo 7 = .ok (.ifCond .ne 6, 3) := by decide +kernel
theorem dX6_undo_10 : decode cX6_undo 10 = .ok (.bipush (-3), 2) := by decide +kernel
theorem dX6_undo_12 : decode cX6_undo 12 = .ok (.ireturn, 1) := by decide +kernel
theorem dX6_undo_13 : decode cX6_undo 13 = .ok (.aload_n 0, 1) := by decide +kernel
theorem dX6_undo_14 : decode cX6_undo 14 = .ok (.aload_n 0, 1) := by decide +kernel
theorem dX6_undo_15 : decode cX6_undo 15 = .ok (.getfield 34, 3) := by decide +kernel
theorem dX6_undo_18 : decode cX6_undo 18 = .ok (.invokevirtual 231, 3) := by decide +kernel
theorem dX6_undo_21 : decode cX6_undo 21 = .ok (.invokevirtual 224, 3) := by decide +kernel
theorem dX6_undo_24 : decode cX6_undo 24 = .ok (.ireturn, 1) := by decide +kernel
theorem dX6_share_0 : decode cX6_share 0 = .ok (.aload_n 0, 1) := by decide +kernel
theorem dX6_share_1 : decode cX6_share 1 = .ok (.getfield 165, 3) := by decide +kernel
theorem dX6_share_4 : decode cX6_share 4 = .ok (.ifCond .ne 13, 3) := by decide +kernel
theorem dX6_share_7 : decode cX6_share 7 = .ok (.new 235, 3) := by decide +kernel
theorem dX6_share_10 : decode cX6_share 10 = .ok (.dup, 1) := by decide +kernel
theorem dX6_share_11 : decode cX6_share 11 = .ok (.ldc 237, 2) := by decide +kernel
theorem dX6_share_13 : decode cX6_share 13 = .ok (.invokespecial 239, 3) := by decide +kernel
theorem dX6_share_16 : decode cX6_share 16 = .ok (.athrow, 1) := by decide +kernel
theorem dX6_share_17 : decode cX6_share 17 = .ok (.aload_n 0, 1) := by decide +kernel
theorem dX6_share_18 : decode cX6_share 18 = .ok (.getfield 159, 3) := by decide +kernel
theorem dX6_share_21 : decode cX6_share 21 = .ok (.aload_n 0, 1) := by decide +kernel
theorem dX6_share_22 : decode cX6_share 22 = .ok (.getfield 165, 3) := by decide +kernel
theorem dX6_share_25 : decode cX6_share 25 = .ok (.idiv, 1) := by decide +kernel
theorem dX6_share_26 : decode cX6_share 26 = .ok (.ireturn, 1) := by decide +kernel
theorem dX6_count_0 : decode cX6_count 0 = .ok (.iload_n 1, 1) := by decide +kernel
theorem dX6_count_1 : decode cX6_count 1 = .ok (.tableswitch 108 0 8 #[51, 56, 67, 72, 80, 88, 93, 98, 103], 51) := by decide +kernel
theorem dX6_count_52 : decode cX6_count 52 = .ok (.aload_n 0, 1) := by decide +kernel
theorem dX6_count_53 : decode cX6_count 53 = .ok (.getfield 92, 3) := by decide +kernel
theorem dX6_count_56 : decode cX6_count 56 = .ok (.ireturn, 1) := by decide +kernel
theorem dX6_count_57 : decode cX6_count 57 = .ok (.aload_n 0, 1) := by decide +kernel
theorem dX6_count_58 : decode cX6_count 58 = .ok (.getfield 21, 3) := by decide +kernel
theorem dX6_count_61 : decode cX6_count 61 = .ok (.getfield 195, 3) := by decide +kernel
theorem dX6_count_64 : decode cX6_count 64 = .ok (.invokestatic 209, 3) := by decide +kernel
theorem dX6_count_67 : decode cX6_count 67 = .ok (.ireturn, 1) := by decide +kernel
theorem dX6_count_68 : decode cX6_count 68 = .ok (.aload_n 0, 1) := by decide +kernel
theorem dX6_count_69 : decode cX6_count 69 = .ok (.getfield 215, 3) := by decide +kernel
theorem dX6_count_72 : decode cX6_count 72 = .ok (.ireturn, 1) := by decide +kernel
theorem dX6_count_73 : decode cX6_count 73 = .ok (.aload_n 0, 1) := by decide +kernel
theorem dX6_count_74 : decode cX6_count 74 = .ok (.getfield 34, 3) := by decide +kernel
theorem dX6_count_77 : decode cX6_count 77 = .ok (.getfield 228, 3) := by decide +kernel
theorem dX6_count_80 : decode cX6_count 80 = .ok (.ireturn, 1) := by decide +kernel
theorem dX6_count_81 : decode cX6_count 81 = .ok (.aload_n 0, 1) := by decide +kernel
theorem dX6_count_82 : decode cX6_count 82 = .ok (.getfield 21, 3) := by decide +kernel
theorem dX6_count_85 : decode cX6_count 85 = .ok (.getfield 240, 3) := by decide +kernel
theorem dX6_count_88 : decode cX6_count 88 = .ok (.ireturn, 1) := by decide +kernel
theorem dX6_count_89 : decode cX6_count 89 = .ok (.aload_n 0, 1) := by decide +kernel
theorem dX6_count_90 : decode cX6_count 90 = .ok (.getfield 120, 3) := by decide +kernel
theorem dX6_count_93 : decode cX6_count 93 = .ok (.ireturn, 1) := by decide +kernel
theorem dX6_count_94 : decode cX6_count 94 = .ok (.aload_n 0, 1) := by decide +kernel
theorem dX6_count_95 : decode cX6_count 95 = .ok (.getfield 243, 3) := by decide +kernel
theorem dX6_count_98 : decode cX6_count 98 = .ok (.ireturn, 1) := by decide +kernel
theorem dX6_count_99 : decode cX6_count 99 = .ok (.aload_n 0, 1) := by decide +kernel
theorem dX6_count_100 : decode cX6_count 100 = .ok (.getfield 246, 3) := by decide +kernel
theorem dX6_count_103 : decode cX6_count 103 = .ok (.ireturn, 1) := by decide +kernel
theorem dX6_count_104 : decode cX6_count 104 = .ok (.aload_n 0, 1) := by decide +kernel
theorem dX6_count_105 : decode cX6_count 105 = .ok (.invokevirtual 249, 3) := by decide +kernel
theorem dX6_count_108 : decode cX6_count 108 = .ok (.ireturn, 1) := by decide +kernel
theorem dX6_count_109 : decode cX6_count 109 = .ok (.bipush (-2), 2) := by decide +kernel
theorem dX6_count_111 : decode cX6_count 111 = .ok (.ireturn, 1) := by decide +kernel
theorem dX6_clear_0 : decode cX6_clear 0 = .ok (.aload_n 0, 1) := by decide +kernel
theorem dX6_clear_1 : decode cX6_clear 1 = .ok (.getfield 92, 3) := by decide +kernel
theorem dX6_clear_4 : decode cX6_clear 4 = .ok (.istore_n 1, 1) := by decide +kernel
theorem dX6_clear_5 : decode cX6_clear 5 = .ok (.aload_n 0, 1) := by decide +kernel
theorem dX6_clear_6 : decode cX6_clear 6 = .ok (.getfield 21, 3) := by decide +kernel
theorem dX6_clear_9 : decode cX6_clear 9 = .ok (.invokevirtual 252, 3) := by decide +kernel
theorem dX6_clear_12 : decode cX6_clear 12 = .ok (.aload_n 0, 1) := by decide +kernel
theorem dX6_clear_13 : decode cX6_clear 13 = .ok (.getfield 10, 3) := by decide +kernel
theorem dX6_clear_16 : decode cX6_clear 16 = .ok (.invokevirtual 255, 3) := by decide +kernel
theorem dX6_clear_19 : decode cX6_clear 19 = .ok (.aload_n 0, 1) := by decide +kernel
theorem dX6_clear_20 : decode cX6_clear 20 = .ok (.getfield 34, 3) := by decide +kernel
theorem dX6_clear_23 : decode cX6_clear 23 = .ok (.invokevirtual 256, 3) := by decide +kernel
theorem dX6_clear_26 : decode cX6_clear 26 = .ok (.aload_n 0, 1) := by decide +kernel
theorem dX6_clear_27 : decode cX6_clear 27 = .ok (.getfield 56, 3) := by decide +kernel
theorem dX6_clear_30 : decode cX6_clear 30 = .ok (.invokevirtual 257, 3) := by decide +kernel
theorem dX6_clear_33 : decode cX6_clear 33 = .ok (.aload_n 0, 1) := by decide +kernel
theorem dX6_clear_34 : decode cX6_clear 34 = .ok (.iconst 0, 1) := by decide +kernel
theorem dX6_clear_35 : decode cX6_clear 35 = .ok (.putfield 92, 3) := by decide +kernel
theorem dX6_clear_38 : decode cX6_clear 38 = .ok (.aload_n 0, 1) := by decide +kernel
theorem dX6_clear_39 : decode cX6_clear 39 = .ok (.iconst 0, 1) := by decide +kernel
theorem dX6_clear_40 : decode cX6_clear 40 = .ok (.putfield 215, 3) := by decide +kernel
theorem dX6_clear_43 : decode cX6_clear 43 = .ok (.aload_n 0, 1) := by decide +kernel
theorem dX6_clear_44 : decode cX6_clear 44 = .ok (.iconst 0, 1) := by decide +kernel
theorem dX6_clear_45 : decode cX6_clear 45 = .ok (.putfield 120, 3) := by decide +kernel
theorem dX6_clear_48 : decode cX6_clear 48 = .ok (.aload_n 0, 1) := by decide +kernel
theorem dX6_clear_49 : decode cX6_clear 49 = .ok (.iconst 0, 1) := by decide +kernel
theorem dX6_clear_50 : decode cX6_clear 50 = .ok (.putfield 243, 3) := by decide +kernel
theorem dX6_clear_53 : decode cX6_clear 53 = .ok (.aload_n 0, 1) := by decide +kernel
theorem dX6_clear_54 : decode cX6_clear 54 = .ok (.iconst 0, 1) := by decide +kernel
theorem dX6_clear_55 : decode cX6_clear 55 = .ok (.putfield 246, 3) := by decide +kernel
theorem dX6_clear_58 : decode cX6_clear 58 = .ok (.aload_n 0, 1) := by decide +kernel
theorem dX6_clear_59 : decode cX6_clear 59 = .ok (.iconst 0, 1) := by decide +kernel
theorem dX6_clear_60 : decode cX6_clear 60 = .ok (.putfield 159, 3) := by decide +kernel
theorem dX6_clear_63 : decode cX6_clear 63 = .ok (.aload_n 0, 1) := by decide +kernel
theorem dX6_clear_64 : decode cX6_clear 64 = .ok (.iconst 0, 1) := by decide +kernel
theorem dX6_clear_65 : decode cX6_clear 65 = .ok (.putfield 165, 3) := by decide +kernel
theorem dX6_clear_68 : decode cX6_clear 68 = .ok (.iload_n 1, 1) := by decide +kernel
theorem dX6_clear_69 : decode cX6_clear 69 = .ok (.ireturn, 1) := by decide +kernel
theorem dX6_isNoPlace_0 : decode cX6_isNoPlace 0 = .ok (.iload_n 0, 1) := by decide +kernel
theorem dX6_isNoPlace_1 : decode cX6_isNoPlace 1 = .ok (.ifCond .lt 10, 3) := by decide +kernel
theorem dX6_isNoPlace_4 : decode cX6_isNoPlace 4 = .ok (.iload_n 0, 1) := by decide +kernel
theorem dX6_isNoPlace_5 : decode cX6_isNoPlace 5 = .ok (.sipush 255, 3) := by decide +kernel
theorem dX6_isNoPlace_8 : decode cX6_isNoPlace 8 = .ok (.if_icmp .le 7, 3) := by decide +kernel
theorem dX6_isNoPlace_11 : decode cX6_isNoPlace 11 = .ok (.iconst 1, 1) := by decide +kernel
theorem dX6_isNoPlace_12 : decode cX6_isNoPlace 12 = .ok (.goto 4, 3) := by decide +kernel
theorem dX6_isNoPlace_15 : decode cX6_isNoPlace 15 = .ok (.iconst 0, 1) := by decide +kernel
theorem dX6_isNoPlace_16 : decode cX6_isNoPlace 16 = .ok (.ireturn, 1) := by decide +kernel
theorem dX6_isNoRoutine_0 : decode cX6_isNoRoutine 0 = .ok (.iload_n 1, 1) := by decide +kernel
theorem dX6_isNoRoutine_1 : decode cX6_isNoRoutine 1 = .ok (.ifCond .lt 11, 3) := by decide +kernel
theorem dX6_isNoRoutine_4 : decode cX6_isNoRoutine 4 = .ok (.iload_n 1, 1) := by decide +kernel
theorem dX6_isNoRoutine_5 : decode cX6_isNoRoutine 5 = .ok (.aload_n 0, 1) := by decide +kernel
theorem dX6_isNoRoutine_6 : decode cX6_isNoRoutine 6 = .ok (.getfield 92, 3) := by decide +kernel
theorem dX6_isNoRoutine_9 : decode cX6_isNoRoutine 9 = .ok (.if_icmp .lt 7, 3) := by decide +kernel
theorem dX6_isNoRoutine_12 : decode cX6_isNoRoutine 12 = .ok (.iconst 1, 1) := by decide +kernel
theorem dX6_isNoRoutine_13 : decode cX6_isNoRoutine 13 = .ok (.goto 4, 3) := by decide +kernel
theorem dX6_isNoRoutine_16 : decode cX6_isNoRoutine 16 = .ok (.iconst 0, 1) := by decide +kernel
theorem dX6_isNoRoutine_17 : decode cX6_isNoRoutine 17 = .ok (.ireturn, 1) := by decide +kernel
theorem dX6_refusalOfRun_0 : decode cX6_refusalOfRun 0 = .ok (.aload_n 0, 1) := by decide +kernel
theorem dX6_refusalOfRun_1 : decode cX6_refusalOfRun 1 = .ok (.iload_n 1, 1) := by decide +kernel
theorem dX6_refusalOfRun_2 : decode cX6_refusalOfRun 2 = .ok (.invokevirtual 123, 3) := by decide +kernel
theorem dX6_refusalOfRun_5 : decode cX6_refusalOfRun 5 = .ok (.ifCond .eq 5, 3) := by decide +kernel
theorem dX6_refusalOfRun_8 : decode cX6_refusalOfRun 8 = .ok (.iconst (-1), 1) := by decide +kernel
theorem dX6_refusalOfRun_9 : decode cX6_refusalOfRun 9 = .ok (.ireturn, 1) := by decide +kernel
theorem dX6_refusalOfRun_10 : decode cX6_refusalOfRun 10 = .ok (.iload_n 2, 1) := by decide +kernel
theorem dX6_refusalOfRun_11 : decode cX6_refusalOfRun 11 = .ok (.iconst 1, 1) := by decide +kernel
theorem dX6_refusalOfRun_12 : decode cX6_refusalOfRun 12 = .ok (.if_icmp .lt 10, 3) := by decide +kernel
theorem dX6_refusalOfRun_15 : decode cX6_refusalOfRun 15 = .ok (.iload_n 2, 1) := by decide +kernel
theorem dX6_refusalOfRun_16 : decode cX6_refusalOfRun 16 = .ok (.sipush 400, 3) := by decide +kernel
theorem dX6_refusalOfRun_19 : decode cX6_refusalOfRun 19 = .ok (.if_icmp .le 8, 3) := by decide +kernel
theorem dX6_refusalOfRun_22 : decode cX6_refusalOfRun 22 = .ok (.bipush (-2), 2) := by decide +kernel
theorem dX6_refusalOfRun_24 : decode cX6_refusalOfRun 24 = .ok (.goto 4, 3) := by decide +kernel
theorem dX6_refusalOfRun_27 : decode cX6_refusalOfRun 27 = .ok (.iconst 0, 1) := by decide +kernel
theorem dX6_refusalOfRun_28 : decode cX6_refusalOfRun 28 = .ok (.ireturn, 1) := by decide +kernel
theorem dX6_beginKeeping_0 : decode cX6_beginKeeping 0 = .ok (.aload_n 0, 1) := by decide +kernel
theorem dX6_beginKeeping_1 : decode cX6_beginKeeping 1 = .ok (.getfield 34, 3) := by decide +kernel
theorem dX6_beginKeeping_4 : decode cX6_beginKeeping 4 = .ok (.aload_n 0, 1) := by decide +kernel
theorem dX6_beginKeeping_5 : decode cX6_beginKeeping 5 = .ok (.getfield 21, 3) := by decide +kernel
theorem dX6_beginKeeping_8 : decode cX6_beginKeeping 8 = .ok (.getfield 88, 3) := by decide +kernel
theorem dX6_beginKeeping_11 : decode cX6_beginKeeping 11 = .ok (.invokevirtual 258, 3) := by decide +kernel
theorem dX6_beginKeeping_14 : decode cX6_beginKeeping 14 = .ok (.aload_n 0, 1) := by decide +kernel
theorem dX6_beginKeeping_15 : decode cX6_beginKeeping 15 = .ok (.getfield 21, 3) := by decide +kernel
theorem dX6_beginKeeping_18 : decode cX6_beginKeeping 18 = .ok (.invokevirtual 262, 3) := by decide +kernel
theorem dX6_beginKeeping_21 : decode cX6_beginKeeping 21 = .ok (.return_, 1) := by decide +kernel
theorem dX6_endKeeping_0 : decode cX6_endKeeping 0 = .ok (.aload_n 0, 1) := by decide +kernel
theorem dX6_endKeeping_1 : decode cX6_endKeeping 1 = .ok (.getfield 21, 3) := by decide +kernel
theorem dX6_endKeeping_4 : decode cX6_endKeeping 4 = .ok (.getfield 265, 3) := by decide +kernel
theorem dX6_endKeeping_7 : decode cX6_endKeeping 7 = .ok (.ifCond .le 10, 3) := by decide +kernel
theorem dX6_endKeeping_10 : decode cX6_endKeeping 10 = .ok (.aload_n 0, 1) := by decide +kernel
theorem dX6_endKeeping_11 : decode cX6_endKeeping 11 = .ok (.getfield 34, 3) := by decide +kernel
theorem dX6_endKeeping_14 : decode cX6_endKeeping 14 = .ok (.invokevirtual 266, 3) := by decide +kernel
theorem dX6_endKeeping_17 : decode cX6_endKeeping 17 = .ok (.aload_n 0, 1) := by decide +kernel
theorem dX6_endKeeping_18 : decode cX6_endKeeping 18 = .ok (.invokevirtual 269, 3) := by decide +kernel
theorem dX6_endKeeping_21 : decode cX6_endKeeping 21 = .ok (.ireturn, 1) := by decide +kernel
theorem dX6_returnTo_0 : decode cX6_returnTo 0 = .ok (.aload_n 0, 1) := by decide +kernel
theorem dX6_returnTo_1 : decode cX6_returnTo 1 = .ok (.getfield 21, 3) := by decide +kernel
theorem dX6_returnTo_4 : decode cX6_returnTo 4 = .ok (.invokevirtual 262, 3) := by decide +kernel
theorem dX6_returnTo_7 : decode cX6_returnTo 7 = .ok (.iconst 0, 1) := by decide +kernel
theorem dX6_returnTo_8 : decode cX6_returnTo 8 = .ok (.istore_n 2, 1) := by decide +kernel
theorem dX6_returnTo_9 : decode cX6_returnTo 9 = .ok (.iload_n 2, 1) := by decide +kernel
theorem dX6_returnTo_10 : decode cX6_returnTo 10 = .ok (.sipush 256, 3) := by decide +kernel
theorem dX6_returnTo_13 : decode cX6_returnTo 13 = .ok (.if_icmp .ge 20, 3) := by decide +kernel
theorem dX6_returnTo_16 : decode cX6_returnTo 16 = .ok (.aload_n 0, 1) := by decide +kernel
theorem dX6_returnTo_17 : decode cX6_returnTo 17 = .ok (.getfield 21, 3) := by decide +kernel
theorem dX6_returnTo_20 : decode cX6_returnTo 20 = .ok (.iload_n 2, 1) := by decide +kernel
theorem dX6_returnTo_21 : decode cX6_returnTo 21 = .ok (.aload_n 1, 1) := by decide +kernel
theorem dX6_returnTo_22 : decode cX6_returnTo 22 = .ok (.iload_n 2, 1) := by decide +kernel
theorem dX6_returnTo_23 : decode cX6_returnTo 23 = .ok (.iaload, 1) := by decide +kernel
theorem dX6_returnTo_24 : decode cX6_returnTo 24 = .ok (.invokevirtual 73, 3) := by decide +kernel
theorem dX6_returnTo_27 : decode cX6_returnTo 27 = .ok (.iinc 2 1, 3) := by decide +kernel
theorem dX6_returnTo_30 : decode cX6_returnTo 30 = .ok (.goto (-21), 3) := by decide +kernel
theorem dX6_returnTo_33 : decode cX6_returnTo 33 = .ok (.aload_n 0, 1) := by decide +kernel
theorem dX6_returnTo_34 : decode cX6_returnTo 34 = .ok (.invokevirtual 269, 3) := by decide +kernel
theorem dX6_returnTo_37 : decode cX6_returnTo 37 = .ok (.istore_n 2, 1) := by decide +kernel
theorem dX6_returnTo_38 : decode cX6_returnTo 38 = .ok (.iload_n 2, 1) := by decide +kernel
theorem dX6_returnTo_39 : decode cX6_returnTo 39 = .ok (.bipush 100, 2) := by decide +kernel
theorem dX6_returnTo_41 : decode cX6_returnTo 41 = .ok (.aload_n 0, 1) := by decide +kernel
theorem dX6_returnTo_42 : decode cX6_returnTo 42 = .ok (.invokevirtual 272, 3) := by decide +kernel
theorem dX6_returnTo_45 : decode cX6_returnTo 45 = .ok (.imul, 1) := by decide +kernel
theorem dX6_returnTo_46 : decode cX6_returnTo 46 = .ok (.iadd, 1) := by decide +kernel
theorem dX6_returnTo_47 : decode cX6_returnTo 47 = .ok (.ireturn, 1) := by decide +kernel
theorem dX6_layDroppedAside_0 : decode cX6_layDroppedAside 0 = .ok (.iconst 0, 1) := by decide +kernel
theorem dX6_layDroppedAside_1 : decode cX6_layDroppedAside 1 = .ok (.istore_n 1, 1) := by decide +kernel
theorem dX6_layDroppedAside_2 : decode cX6_layDroppedAside 2 = .ok (.iconst 0, 1) := by decide +kernel
theorem dX6_layDroppedAside_3 : decode cX6_layDroppedAside 3 = .ok (.istore_n 2, 1) := by decide +kernel
theorem dX6_layDroppedAside_4 : decode cX6_layDroppedAside 4 = .ok (.iload_n 2, 1) := by decide +kernel
theorem dX6_layDroppedAside_5 : decode cX6_layDroppedAside 5 = .ok (.aload_n 0, 1) := by decide +kernel
theorem dX6_layDroppedAside_6 : decode cX6_layDroppedAside 6 = .ok (.getfield 92, 3) := by decide +kernel
theorem dX6_layDroppedAside_9 : decode cX6_layDroppedAside 9 = .ok (.if_icmp .ge 50, 3) := by decide +kernel
theorem dX6_layDroppedAside_12 : decode cX6_layDroppedAside 12 = .ok (.aload_n 0, 1) := by decide +kernel
theorem dX6_layDroppedAside_13 : decode cX6_layDroppedAside 13 = .ok (.getfield 21, 3) := by decide +kernel
theorem dX6_layDroppedAside_16 : decode cX6_layDroppedAside 16 = .ok (.iload_n 2, 1) := by decide +kernel
theorem dX6_layDroppedAside_17 : decode cX6_layDroppedAside 17 = .ok (.invokevirtual 275, 3) := by decide +kernel
theorem dX6_layDroppedAside_20 : decode cX6_layDroppedAside 20 = .ok (.ifCond .eq 33, 3) := by decide +kernel
theorem dX6_layDroppedAside_23 : decode cX6_layDroppedAside 23 = .ok (.aload_n 0, 1) := by decide +kernel
theorem dX6_layDroppedAside_24 : decode cX6_layDroppedAside 24 = .ok (.getfield 10, 3) := by decide +kernel
theorem dX6_layDroppedAside_27 : decode cX6_layDroppedAside 27 = .ok (.iload_n 2, 1) := by decide +kernel
theorem dX6_layDroppedAside_28 : decode cX6_layDroppedAside 28 = .ok (.aload_n 0, 1) := by decide +kernel
theorem dX6_layDroppedAside_29 : decode cX6_layDroppedAside 29 = .ok (.getfield 27, 3) := by decide +kernel
theorem dX6_layDroppedAside_32 : decode cX6_layDroppedAside 32 = .ok (.iload_n 2, 1) := by decide +kernel
theorem dX6_layDroppedAside_33 : decode cX6_layDroppedAside 33 = .ok (.aaload, 1) := by decide +kernel
theorem dX6_layDroppedAside_34 : decode cX6_layDroppedAside 34 = .ok (.getfield 107, 3) := by decide +kernel
theorem dX6_layDroppedAside_37 : decode cX6_layDroppedAside 37 = .ok (.iconst 0, 1) := by decide +kernel
theorem dX6_layDroppedAside_38 : decode cX6_layDroppedAside 38 = .ok (.invokevirtual 278, 3) := by decide +kernel
theorem dX6_layDroppedAside_41 : decode cX6_layDroppedAside 41 = .ok (.aload_n 0, 1) := by decide +kernel
theorem dX6_layDroppedAside_42 : decode cX6_layDroppedAside 42 = .ok (.getfield 27, 3) := by decide +kernel
theorem dX6_layDroppedAside_45 : decode cX6_layDroppedAside 45 = .ok (.iload_n 2, 1) := by decide +kernel
theorem dX6_layDroppedAside_46 : decode cX6_layDroppedAside 46 = .ok (.aaload, 1) := by decide +kernel
theorem dX6_layDroppedAside_47 : decode cX6_layDroppedAside 47 = .ok (.invokevirtual 282, 3) := by decide +kernel
theorem dX6_layDroppedAside_50 : decode cX6_layDroppedAside 50 = .ok (.iinc 1 1, 3) := by decide +kernel
theorem dX6_layDroppedAside_53 : decode cX6_layDroppedAside 53 = .ok (.iinc 2 1, 3) := by decide +kernel
theorem dX6_layDroppedAside_56 : decode cX6_layDroppedAside 56 = .ok (.goto (-52), 3) := by decide +kernel
theorem dX6_layDroppedAside_59 : decode cX6_layDroppedAside 59 = .ok (.aload_n 0, 1) := by decide +kernel
theorem dX6_layDroppedAside_60 : decode cX6_layDroppedAside 60 = .ok (.dup, 1) := by decide +kernel
theorem dX6_layDroppedAside_61 : decode cX6_layDroppedAside 61 = .ok (.getfield 243, 3) := by decide +kernel
theorem dX6_layDroppedAside_64 : decode cX6_layDroppedAside 64 = .ok (.iload_n 1, 1) := by decide +kernel
theorem dX6_layDroppedAside_65 : decode cX6_layDroppedAside 65 = .ok (.iadd, 1) := by decide +kernel
theorem dX6_layDroppedAside_66 : decode cX6_layDroppedAside 66 = .ok (.putfield 243, 3) := by decide +kernel
theorem dX6_layDroppedAside_69 : decode cX6_layDroppedAside 69 = .ok (.iload_n 1, 1) := by decide +kernel
theorem dX6_layDroppedAside_70 : decode cX6_layDroppedAside 70 = .ok (.ireturn, 1) := by decide +kernel
theorem dX6_bringBack_0 : decode cX6_bringBack 0 = .ok (.iconst 0, 1) := by decide +kernel
theorem dX6_bringBack_1 : decode cX6_bringBack 1 = .ok (.istore_n 1, 1) := by decide +kernel
theorem dX6_bringBack_2 : decode cX6_bringBack 2 = .ok (.iconst 0, 1) := by decide +kernel
theorem dX6_bringBack_3 : decode cX6_bringBack 3 = .ok (.istore_n 2, 1) := by decide +kernel
theorem dX6_bringBack_4 : decode cX6_bringBack 4 = .ok (.iload_n 2, 1) := by decide +kernel
theorem dX6_bringBack_5 : decode cX6_bringBack 5 = .ok (.aload_n 0, 1) := by decide +kernel
theorem dX6_bringBack_6 : decode cX6_bringBack 6 = .ok (.getfield 92, 3) := by decide +kernel
theorem dX6_bringBack_9 : decode cX6_bringBack 9 = .ok (.if_icmp .ge 56, 3) := by decide +kernel
theorem dX6_bringBack_12 : decode cX6_bringBack 12 = .ok (.aload_n 0, 1) := by decide +kernel
theorem dX6_bringBack_13 : decode cX6_bringBack 13 = .ok (.getfield 21, 3) := by decide +kernel
theorem dX6_bringBack_16 : decode cX6_bringBack 16 = .ok (.iload_n 2, 1) := by decide +kernel
theorem dX6_bringBack_17 : decode cX6_bringBack 17 = .ok (.invokevirtual 100, 3) := by decide +kernel
theorem dX6_bringBack_20 : decode cX6_bringBack 20 = .ok (.ifCond .ne 39, 3) := by decide +kernel
theorem dX6_bringBack_23 : decode cX6_bringBack 23 = .ok (.aload_n 0, 1) := by decide +kernel
theorem dX6_bringBack_24 : decode cX6_bringBack 24 = .ok (.getfield 27, 3) := by decide +kernel
theorem dX6_bringBack_27 : decode cX6_bringBack 27 = .ok (.iload_n 2, 1) := by decide +kernel
theorem dX6_bringBack_28 : decode cX6_bringBack 28 = .ok (.aaload, 1) := by decide +kernel
theorem dX6_bringBack_29 : decode cX6_bringBack 29 = .ok (.aload_n 0, 1) := by decide +kernel
theorem dX6_bringBack_30 : decode cX6_bringBack 30 = .ok (.getfield 21, 3) := by decide +kernel
theorem dX6_bringBack_33 : decode cX6_bringBack 33 = .ok (.getfield 88, 3) := by decide +kernel
theorem dX6_bringBack_36 : decode cX6_bringBack 36 = .ok (.invokevirtual 285, 3) := by decide +kernel
theorem dX6_bringBack_39 : decode cX6_bringBack 39 = .ok (.ifCond .eq 20, 3) := by decide +kernel
theorem dX6_bringBack_42 : decode cX6_bringBack 42 = .ok (.aload_n 0, 1) := by decide +kernel
theorem dX6_bringBack_43 : decode cX6_bringBack 43 = .ok (.getfield 27, 3) := by decide +kernel
theorem dX6_bringBack_46 : decode cX6_bringBack 46 = .ok (.iload_n 2, 1) := by decide +kernel
theorem dX6_bringBack_47 : decode cX6_bringBack 47 = .ok (.aaload, 1) := by decide +kernel
theorem dX6_bringBack_48 : decode cX6_bringBack 48 = .ok (.invokevirtual 289, 3) := by decide +kernel
theorem dX6_bringBack_51 : decode cX6_bringBack 51 = .ok (.aload_n 0, 1) := by decide +kernel
theorem dX6_bringBack_52 : decode cX6_bringBack 52 = .ok (.iload_n 2, 1) := by decide +kernel
theorem dX6_bringBack_53 : decode cX6_bringBack 53 = .ok (.invokevirtual 117, 3) := by decide +kernel
theorem dX6_bringBack_56 : decode cX6_bringBack 56 = .ok (.iinc 1 1, 3) := by decide +kernel
theorem dX6_bringBack_59 : decode cX6_bringBack 59 = .ok (.iinc 2 1, 3) := by decide +kernel
theorem dX6_bringBack_62 : decode cX6_bringBack 62 = .ok (.goto (-58), 3) := by decide +kernel
theorem dX6_bringBack_65 : decode cX6_bringBack 65 = .ok (.aload_n 0, 1) := by decide +kernel
theorem dX6_bringBack_66 : decode cX6_bringBack 66 = .ok (.dup, 1) := by decide +kernel
theorem dX6_bringBack_67 : decode cX6_bringBack 67 = .ok (.getfield 246, 3) := by decide +kernel
theorem dX6_bringBack_70 : decode cX6_bringBack 70 = .ok (.iload_n 1, 1) := by decide +kernel
theorem dX6_bringBack_71 : decode cX6_bringBack 71 = .ok (.iadd, 1) := by decide +kernel
theorem dX6_bringBack_72 : decode cX6_bringBack 72 = .ok (.putfield 246, 3) := by decide +kernel
theorem dX6_bringBack_75 : decode cX6_bringBack 75 = .ok (.iload_n 1, 1) := by decide +kernel
theorem dX6_bringBack_76 : decode cX6_bringBack 76 = .ok (.ireturn, 1) := by decide +kernel
theorem dX6_giveMember_0 : decode cX6_giveMember 0 = .ok (.aload_n 0, 1) := by decide +kernel
theorem dX6_giveMember_1 : decode cX6_giveMember 1 = .ok (.getfield 10, 3) := by decide +kernel
theorem dX6_giveMember_4 : decode cX6_giveMember 4 = .ok (.iload_n 1, 1) := by decide +kernel
theorem dX6_giveMember_5 : decode cX6_giveMember 5 = .ok (.aload_n 0, 1) := by decide +kernel
theorem dX6_giveMember_6 : decode cX6_giveMember 6 = .ok (.getfield 27, 3) := by decide +kernel
theorem dX6_giveMember_9 : decode cX6_giveMember 9 = .ok (.iload_n 1, 1) := by decide +kernel
theorem dX6_giveMember_10 : decode cX6_giveMember 10 = .ok (.aaload, 1) := by decide +kernel
theorem dX6_giveMember_11 : decode cX6_giveMember 11 = .ok (.getfield 107, 3) := by decide +kernel
theorem dX6_giveMember_14 : decode cX6_giveMember 14 = .ok (.iconst 1, 1) := by decide +kernel
theorem dX6_giveMember_15 : decode cX6_giveMember 15 = .ok (.invokevirtual 278, 3) := by decide +kernel
theorem dX6_giveMember_18 : decode cX6_giveMember 18 = .ok (.aload_n 0, 1) := by decide +kernel
theorem dX6_giveMember_19 : decode cX6_giveMember 19 = .ok (.getfield 21, 3) := by decide +kernel
theorem dX6_giveMember_22 : decode cX6_giveMember 22 = .ok (.dup, 1) := by decide +kernel
theorem dX6_giveMember_23 : decode cX6_giveMember 23 = .ok (.getfield 195, 3) := by decide +kernel
theorem dX6_giveMember_26 : decode cX6_giveMember 26 = .ok (.iconst 1, 1) := by decide +kernel
theorem dX6_giveMember_27 : decode cX6_giveMember 27 = .ok (.iload_n 1, 1) := by decide +kernel
theorem dX6_giveMember_28 : decode cX6_giveMember 28 = .ok (.ishl, 1) := by decide +kernel
theorem dX6_giveMember_29 : decode cX6_giveMember 29 = .ok (.ior, 1) := by decide +kernel
theorem dX6_giveMember_30 : decode cX6_giveMember 30 = .ok (.putfield 195, 3) := by decide +kernel
theorem dX6_giveMember_33 : decode cX6_giveMember 33 = .ok (.return_, 1) := by decide +kernel
theorem dX6_countWalkedForGood_0 : decode cX6_countWalkedForGood 0 = .ok (.iconst 0, 1) := by decide +kernel
theorem dX6_countWalkedForGood_1 : decode cX6_countWalkedForGood 1 = .ok (.istore_n 1, 1) := by decide +kernel
theorem dX6_countWalkedForGood_2 : decode cX6_countWalkedForGood 2 = .ok (.iconst 0, 1) := by decide +kernel
theorem dX6_countWalkedForGood_3 : decode cX6_countWalkedForGood 3 = .ok (.istore_n 2, 1) := by decide +kernel
theorem dX6_countWalkedForGood_4 : decode cX6_countWalkedForGood 4 = .ok (.iload_n 2, 1) := by decide +kernel
theorem dX6_countWalkedForGood_5 : decode cX6_countWalkedForGood 5 = .ok (.aload_n 0, 1) := by decide +kernel
theorem dX6_countWalkedForGood_6 : decode cX6_countWalkedForGood 6 = .ok (.getfield 92, 3) := by decide +kernel
theorem dX6_countWalkedForGood_9 : decode cX6_countWalkedForGood 9 = .ok (.if_icmp .ge 24, 3) := by decide +kernel
theorem dX6_countWalkedForGood_12 : decode cX6_countWalkedForGood 12 = .ok (.aload_n 0, 1) := by decide +kernel
theorem dX6_countWalkedForGood_13 : decode cX6_countWalkedForGood 13 = .ok (.getfield 27, 3) := by decide +kernel
theorem dX6_countWalkedForGood_16 : decode cX6_countWalkedForGood 16 = .ok (.iload_n 2, 1) := by decide +kernel
theorem dX6_countWalkedForGood_17 : decode cX6_countWalkedForGood 17 = .ok (.aaload, 1) := by decide +kernel
theorem dX6_countWalkedForGood_18 : decode cX6_countWalkedForGood 18 = .ok (.invokevirtual 103, 3) := by decide +kernel
theorem dX6_countWalkedForGood_21 : decode cX6_countWalkedForGood 21 = .ok (.ifCond .eq 6, 3) := by decide +kernel
theorem dX6_countWalkedForGood_24 : decode cX6_countWalkedForGood 24 = .ok (.iinc 1 1, 3) := by decide +kernel
theorem dX6_countWalkedForGood_27 : decode cX6_countWalkedForGood 27 = .ok (.iinc 2 1, 3) := by decide +kernel
theorem dX6_countWalkedForGood_30 : decode cX6_countWalkedForGood 30 = .ok (.goto (-26), 3) := by decide +kernel
theorem dX6_countWalkedForGood_33 : decode cX6_countWalkedForGood 33 = .ok (.iload_n 1, 1) := by decide +kernel
theorem dX6_countWalkedForGood_34 : decode cX6_countWalkedForGood 34 = .ok (.ireturn, 1) := by decide +kernel
theorem dX6_isKind_0 : decode cX6_isKind 0 = .ok (.iload_n 0, 1) := by decide +kernel
theorem dX6_isKind_1 : decode cX6_isKind 1 = .ok (.ifCond .lt 13, 3) := by decide +kernel
theorem dX6_isKind_4 : decode cX6_isKind 4 = .ok (.iload_n 0, 1) := by decide +kernel
theorem dX6_isKind_5 : decode cX6_isKind 5 = .ok (.bipush 12, 2) := by decide +kernel
theorem dX6_isKind_7 : decode cX6_isKind 7 = .ok (.if_icmp .gt 7, 3) := by decide +kernel
theorem dX6_isKind_10 : decode cX6_isKind 10 = .ok (.iconst 1, 1) := by decide +kernel
theorem dX6_isKind_11 : decode cX6_isKind 11 = .ok (.goto 4, 3) := by decide +kernel
theorem dX6_isKind_14 : decode cX6_isKind 14 = .ok (.iconst 0, 1) := by decide +kernel
theorem dX6_isKind_15 : decode cX6_isKind 15 = .ok (.ireturn, 1) := by decide +kernel
theorem dX6_hasOperand_0 : decode cX6_hasOperand 0 = .ok (.iload_n 0, 1) := by decide +kernel
theorem dX6_hasOperand_1 : decode cX6_hasOperand 1 = .ok (.iconst 1, 1) := by decide +kernel
theorem dX6_hasOperand_2 : decode cX6_hasOperand 2 = .ok (.if_icmp .eq 19, 3) := by decide +kernel
theorem dX6_hasOperand_5 : decode cX6_hasOperand 5 = .ok (.iload_n 0, 1) := by decide +kernel
theorem dX6_hasOperand_6 : decode cX6_hasOperand 6 = .ok (.iconst 2, 1) := by decide +kernel
theorem dX6_hasOperand_7 : decode cX6_hasOperand 7 = .ok (.if_icmp .eq 14, 3) := by decide +kernel
theorem dX6_hasOperand_10 : decode cX6_hasOperand 10 = .ok (.iload_n 0, 1) := by decide +kernel
theorem dX6_hasOperand_11 : decode cX6_hasOperand 11 = .ok (.iconst 4, 1) := by decide +kernel
theorem dX6_hasOperand_12 : decode cX6_hasOperand 12 = .ok (.if_icmp .lt 13, 3) := by decide +kernel
theorem dX6_hasOperand_15 : decode cX6_hasOperand 15 = .ok (.iload_n 0, 1) := by decide +kernel
theorem dX6_hasOperand_16 : decode cX6_hasOperand 16 = .ok (.bipush 9, 2) := by decide +kernel
theorem dX6_hasOperand_18 : decode cX6_hasOperand 18 = .ok (.if_icmp .gt 7, 3) := by decide +kernel
theorem dX6_hasOperand_21 : decode cX6_hasOperand 21 = .ok (.iconst 1, 1) := by decide +kernel
theorem dX6_hasOperand_22 : decode cX6_hasOperand 22 = .ok (.goto 4, 3) := by decide +kernel
theorem dX6_hasOperand_25 : decode cX6_hasOperand 25 = .ok (.iconst 0, 1) := by decide +kernel
theorem dX6_hasOperand_26 : decode cX6_hasOperand 26 = .ok (.ireturn, 1) := by decide +kernel
theorem dX6_lengthOf_0 : decode cX6_lengthOf 0 = .ok (.iload_n 0, 1) := by decide +kernel
theorem dX6_lengthOf_1 : decode cX6_lengthOf 1 = .ok (.invokestatic 292, 3) := by decide +kernel
theorem dX6_lengthOf_4 : decode cX6_lengthOf 4 = .ok (.ifCond .eq 7, 3) := by decide +kernel
theorem dX6_lengthOf_7 : decode cX6_lengthOf 7 = .ok (.iconst 2, 1) := by decide +kernel
theorem dX6_lengthOf_8 : decode cX6_lengthOf 8 = .ok (.goto 4, 3) := by decide +kernel
theorem dX6_lengthOf_11 : decode cX6_lengthOf 11 = .ok (.iconst 1, 1) := by decide +kernel
theorem dX6_lengthOf_12 : decode cX6_lengthOf 12 = .ok (.ireturn, 1) := by decide +kernel
theorem dX6_canGoElsewhere_0 : decode cX6_canGoElsewhere 0 = .ok (.iload_n 0, 1) := by decide +kernel
theorem dX6_canGoElsewhere_1 : decode cX6_canGoElsewhere 1 = .ok (.bipush 6, 2) := by decide +kernel
theorem dX6_canGoElsewhere_3 : decode cX6_canGoElsewhere 3 = .ok (.if_icmp .eq 15, 3) := by decide +kernel
theorem dX6_canGoElsewhere_6 : decode cX6_canGoElsewhere 6 = .ok (.iload_n 0, 1) := by decide +kernel
theorem dX6_canGoElsewhere_7 : decode cX6_canGoElsewhere 7 = .ok (.bipush 7, 2) := by decide +kernel
theorem dX6_canGoElsewhere_9 : decode cX6_canGoElsewhere 9 = .ok (.if_icmp .eq 9, 3) := by decide +kernel
theorem dX6_canGoElsewhere_12 : decode cX6_canGoElsewhere 12 = .ok (.iload_n 0, 1) := by decide +kernel
theorem dX6_canGoElsewhere_13 : decode cX6_canGoElsewhere 13 = .ok (.bipush 8, 2) := by decide +kernel
theorem dX6_canGoElsewhere_15 : decode cX6_canGoElsewhere 15 = .ok (.if_icmp .ne 7, 3) := by decide +kernel
theorem dX6_canGoElsewhere_18 : decode cX6_canGoElsewhere 18 = .ok (.iconst 1, 1) := by decide +kernel
theorem dX6_canGoElsewhere_19 : decode cX6_canGoElsewhere 19 = .ok (.goto 4, 3) := by decide +kernel
theorem dX6_canGoElsewhere_22 : decode cX6_canGoElsewhere 22 = .ok (.iconst 0, 1) := by decide +kernel
theorem dX6_canGoElsewhere_23 : decode cX6_canGoElsewhere 23 = .ok (.ireturn, 1) := by decide +kernel
end
section
theorem dX7_init_0 : decode cX7_init 0 = .ok (.aload_n 0, 1) := by decide +kernel
theorem dX7_init_1 : decode cX7_init 1 = .ok (.invokespecial 1, 3) := by decide +kernel
theorem dX7_init_4 : decode cX7_init 4 = .ok (.aload_n 0, 1) := by decide +kernel
theorem dX7_init_5 : decode cX7_init 5 = .ok (.sipush 256, 3) := by decide +kernel
theorem dX7_init_8 : decode cX7_init 8 = .ok (.newarray .int, 2) := by decide +kernel
theorem dX7_init_10 : decode cX7_init 10 = .ok (.putfield 7, 3) := by decide +kernel
theorem dX7_init_13 : decode cX7_init 13 = .ok (.aload_n 0, 1) := by decide +kernel
theorem dX7_init_14 : decode cX7_init 14 = .ok (.bipush 10, 2) := by decide +kernel
theorem dX7_init_16 : decode cX7_init 16 = .ok (.newarray .int, 2) := by decide +kernel
theorem dX7_init_18 : decode cX7_init 18 = .ok (.putfield 13, 3) := by decide +kernel
theorem dX7_init_21 : decode cX7_init 21 = .ok (.aload_n 0, 1) := by decide +kernel
theorem dX7_init_22 : decode cX7_init 22 = .ok (.bipush 10, 2) := by decide +kernel
theorem dX7_init_24 : decode cX7_init 24 = .ok (.newarray .boolean, 2) := by decide +kernel
theorem dX7_init_26 : decode cX7_init 26 = .ok (.putfield 16, 3) := by decide +kernel
theorem dX7_init_29 : decode cX7_init 29 = .ok (.aload_n 0, 1) := by decide +kernel
theorem dX7_init_30 : decode cX7_init 30 = .ok (.sipush 2560, 3) := by decide +kernel
theorem dX7_init_33 : decode cX7_init 33 = .ok (.newarray .boolean, 2) := by decide +kernel
theorem dX7_init_35 : decode cX7_init 35 = .ok (.putfield 20, 3) := by decide +kernel
theorem dX7_init_38 : decode cX7_init 38 = .ok (.aload_n 0, 1) := by decide +kernel
theorem dX7_init_39 : decode cX7_init 39 = .ok (.sipush 2560, 3) := by decide +kernel
theorem dX7_init_42 : decode cX7_init 42 = .ok (.newarray .boolean, 2) := by decide +kernel
theorem dX7_init_44 : decode cX7_init 44 = .ok (.putfield 23, 3) := by decide +kernel
theorem dX7_init_47 : decode cX7_init 47 = .ok (.aload_n 0, 1) := by decide +kernel
theorem dX7_init_48 : decode cX7_init 48 = .ok (.sipush 2560, 3) := by decide +kernel
theorem dX7_init_51 : decode cX7_init 51 = .ok (.newarray .int, 2) := by decide +kernel
theorem dX7_init_53 : decode cX7_init 53 = .ok (.putfield 26, 3) := by decide +kernel
theorem dX7_init_56 : decode cX7_init 56 = .ok (.aload_n 0, 1) := by decide +kernel
theorem dX7_init_57 : decode cX7_init 57 = .ok (.bipush 10, 2) := by decide +kernel
theorem dX7_init_59 : decode cX7_init 59 = .ok (.newarray .int, 2) := by decide +kernel
theorem dX7_init_61 : decode cX7_init 61 = .ok (.putfield 29, 3) := by decide +kernel
theorem dX7_init_64 : decode cX7_init 64 = .ok (.aload_n 0, 1) := by decide +kernel
theorem dX7_init_65 : decode cX7_init 65 = .ok (.bipush 10, 2) := by decide +kernel
theorem dX7_init_67 : decode cX7_init 67 = .ok (.newarray .boolean, 2) := by decide +kernel
theorem dX7_init_69 : decode cX7_init 69 = .ok (.putfield 32, 3) := by decide +kernel
theorem dX7_init_72 : decode cX7_init 72 = .ok (.aload_n 0, 1) := by decide +kernel
theorem dX7_init_73 : decode cX7_init 73 = .ok (.sipush 2560, 3) := by decide +kernel
theorem dX7_init_76 : decode cX7_init 76 = .ok (.newarray .boolean, 2) := by decide +kernel
theorem dX7_init_78 : decode cX7_init 78 = .ok (.putfield 35, 3) := by decide +kernel
theorem dX7_init_81 : decode cX7_init 81 = .ok (.aload_n 0, 1) := by decide +kernel
theorem dX7_init_82 : decode cX7_init 82 = .ok (.sipush 2560, 3) := by decide +kernel
theorem dX7_init_85 : decode cX7_init 85 = .ok (.newarray .boolean, 2) := by decide +kernel
theorem dX7_init_87 : decode cX7_init 87 = .ok (.putfield 38, 3) := by decide +kernel
theorem dX7_init_90 : decode cX7_init 90 = .ok (.aload_n 0, 1) := by decide +kernel
theorem dX7_init_91 : decode cX7_init 91 = .ok (.sipush 2560, 3) := by decide +kernel
theorem dX7_init_94 : decode cX7_init 94 = .ok (.newarray .int, 2) := by decide +kernel
theorem dX7_init_96 : decode cX7_init 96 = .ok (.putfield 41, 3) := by decide +kernel
theorem dX7_init_99 : decode cX7_init 99 = .ok (.aload_n 0, 1) := by decide +kernel
theorem dX7_init_100 : decode cX7_init 100 = .ok (.sipush 1024, 3) := by decide +kernel
theorem dX7_init_103 : decode cX7_init 103 = .ok (.newarray .int, 2) := by decide +kernel
theorem dX7_init_105 : decode cX7_init 105 = .ok (.putfield 44, 3) := by decide +kernel
theorem dX7_init_108 : decode cX7_init 108 = .ok (.aload_n 0, 1) := by decide +kernel
theorem dX7_init_109 : decode cX7_init 109 = .ok (.sipush 2048, 3) := by decide +kernel
theorem dX7_init_112 : decode cX7_init 112 = .ok (.newarray .int, 2) := by decide +kernel
theorem dX7_init_114 : decode cX7_init 114 = .ok (.putfield 47, 3) := by decide +kernel
theorem dX7_init_117 : decode cX7_init 117 = .ok (.aload_n 0, 1) := by decide +kernel
theorem dX7_init_118 : decode cX7_init 118 = .ok (.sipush 256, 3) := by decide +kernel
theorem dX7_init_121 : decode cX7_init 121 = .ok (.newarray .int, 2) := by decide +kernel
theorem dX7_init_123 : decode cX7_init 123 = .ok (.putfield 50, 3) := by decide +kernel
theorem dX7_init_126 : decode cX7_init 126 = .ok (.aload_n 0, 1) := by decide +kernel
theorem dX7_init_127 : decode cX7_init 127 = .ok (.bipush 9, 2) := by decide +kernel
theorem dX7_init_129 : decode cX7_init 129 = .ok (.newarray .int, 2) := by decide +kernel
theorem dX7_init_131 : decode cX7_init 131 = .ok (.putfield 53, 3) := by decide +kernel
theorem dX7_init_134 : decode cX7_init 134 = .ok (.aload_n 0, 1) := by decide +kernel
theorem dX7_init_135 : decode cX7_init 135 = .ok (.sipush 256, 3) := by decide +kernel
theorem dX7_init_138 : decode cX7_init 138 = .ok (.newarray .boolean, 2) := by decide +kernel
theorem dX7_init_140 : decode cX7_init 140 = .ok (.putfield 56, 3) := by decide +kernel
theorem dX7_init_143 : decode cX7_init 143 = .ok (.aload_n 0, 1) := by decide +kernel
theorem dX7_init_144 : decode cX7_init 144 = .ok (.sipush 256, 3) := by decide +kernel
theorem dX7_init_147 : decode cX7_init 147 = .ok (.newarray .boolean, 2) := by decide +kernel
theorem dX7_init_149 : decode cX7_init 149 = .ok (.putfield 59, 3) := by decide +kernel
theorem dX7_init_152 : decode cX7_init 152 = .ok (.aload_n 0, 1) := by decide +kernel
theorem dX7_init_153 : decode cX7_init 153 = .ok (.sipush 256, 3) := by decide +kernel
theorem dX7_init_156 : decode cX7_init 156 = .ok (.newarray .int, 2) := by decide +kernel
theorem dX7_init_158 : decode cX7_init 158 = .ok (.putfield 62, 3) := by decide +kernel
theorem dX7_init_161 : decode cX7_init 161 = .ok (.aload_n 0, 1) := by decide +kernel
theorem dX7_init_162 : decode cX7_init 162 = .ok (.bipush 6, 2) := by decide +kernel
theorem dX7_init_164 : decode cX7_init 164 = .ok (.newarray .int, 2) := by decide +kernel
theorem dX7_init_166 : decode cX7_init 166 = .ok (.putfield 65, 3) := by decide +kernel
theorem dX7_init_169 : decode cX7_init 169 = .ok (.aload_n 0, 1) := by decide +kernel
theorem dX7_init_170 : decode cX7_init 170 = .ok (.bipush 6, 2) := by decide +kernel
theorem dX7_init_172 : decode cX7_init 172 = .ok (.newarray .int, 2) := by decide +kernel
theorem dX7_init_174 : decode cX7_init 174 = .ok (.putfield 68, 3) := by decide +kernel
theorem dX7_init_177 : decode cX7_init 177 = .ok (.return_, 1) := by decide +kernel
theorem dX7_thrown_0 : decode cX7_thrown 0 = .ok (.aload_n 0, 1) := by decide +kernel
theorem dX7_thrown_1 : decode cX7_thrown 1 = .ok (.getfield 71, 3) := by decide +kernel
theorem dX7_thrown_4 : decode cX7_thrown 4 = .ok (.ireturn, 1) := by decide +kernel
theorem dX7_in_0 : decode cX7_in 0 = .ok (.iload_n 0, 1) := by decide +kernel
theorem dX7_in_1 : decode cX7_in 1 = .ok (.iload_n 1, 1) := by decide +kernel
theorem dX7_in_2 : decode cX7_in 2 = .ok (.if_icmp .lt 12, 3) := by decide +kernel
theorem dX7_in_5 : decode cX7_in 5 = .ok (.iload_n 0, 1) := by decide +kernel
theorem dX7_in_6 : decode cX7_in 6 = .ok (.iload_n 2, 1) := by decide +kernel
theorem dX7_in_7 : decode cX7_in 7 = .ok (.if_icmp .gt 7, 3) := by decide +kernel
theorem dX7_in_10 : decode cX7_in 10 = .ok (.iconst 1, 1) := by decide +kernel
theorem dX7_in_11 : decode cX7_in 11 = .ok (.goto 4, 3) := by decide +kernel
theorem dX7_in_14 : decode cX7_in 14 = .ok (.iconst 0, 1) := by decide +kernel
theorem dX7_in_15 : decode cX7_in 15 = .ok (.ireturn, 1) := by decide +kernel
theorem dX7_isRoutine_0 : decode cX7_isRoutine 0 = .ok (.iload_n 1, 1) := by decide +kernel
theorem dX7_isRoutine_1 : decode cX7_isRoutine 1 = .ok (.iconst 0, 1) := by decide +kernel
theorem dX7_isRoutine_2 : decode cX7_isRoutine 2 = .ok (.aload_n 0, 1) := by decide +kernel
theorem dX7_isRoutine_3 : decode cX7_isRoutine 3 = .ok (.getfield 75, 3) := by decide +kernel
theorem dX7_isRoutine_6 : decode cX7_isRoutine 6 = .ok (.iconst 1, 1) := by decide +kernel
theorem dX7_isRoutine_7 : decode cX7_isRoutine 7 = .ok (.isub, 1) := by decide +kernel
theorem dX7_isRoutine_8 : decode cX7_isRoutine 8 = .ok (.invokestatic 78, 3) := by decide +kernel
theorem dX7_isRoutine_11 : decode cX7_isRoutine 11 = .ok (.ireturn, 1) := by decide +kernel
theorem dX7_isLooked_0 : decode cX7_isLooked 0 = .ok (.iconst 0, 1) := by decide +kernel
theorem dX7_isLooked_1 : decode cX7_isLooked 1 = .ok (.istore_n 2, 1) := by decide +kernel
theorem dX7_isLooked_2 : decode cX7_isLooked 2 = .ok (.iconst 0, 1) := by decide +kernel
theorem dX7_isLooked_3 : decode cX7_isLooked 3 = .ok (.istore_n 3, 1) := by decide +kernel
theorem dX7_isLooked_4 : decode cX7_isLooked 4 = .ok (.iload_n 3, 1) := by decide +kernel
theorem dX7_isLooked_5 : decode cX7_isLooked 5 = .ok (.aload_n 0, 1) := by decide +kernel
theorem dX7_isLooked_6 : decode cX7_isLooked 6 = .ok (.getfield 75, 3) := by decide +kernel
theorem dX7_isLooked_9 : decode cX7_isLooked 9 = .ok (.if_icmp .ge 65, 3) := by decide +kernel
theorem dX7_isLooked_12 : decode cX7_isLooked 12 = .ok (.iconst 0, 1) := by decide +kernel
theorem dX7_isLooked_13 : decode cX7_isLooked 13 = .ok (.istore 4, 2) := by decide +kernel
theorem dX7_isLooked_15 : decode cX7_isLooked 15 = .ok (.iload 4, 2) := by decide +kernel
theorem dX7_isLooked_17 : decode cX7_isLooked 17 = .ok (.bipush 16, 2) := by decide +kernel
theorem dX7_isLooked_19 : decode cX7_isLooked 19 = .ok (.if_icmp .ge 49, 3) := by decide +kernel
theorem dX7_isLooked_22 : decode cX7_isLooked 22 = .ok (.aload_n 0, 1) := by decide +kernel
theorem dX7_isLooked_23 : decode cX7_isLooked 23 = .ok (.getfield 16, 3) := by decide +kernel
theorem dX7_isLooked_26 : decode cX7_isLooked 26 = .ok (.iload_n 3, 1) := by decide +kernel
theorem dX7_isLooked_27 : decode cX7_isLooked 27 = .ok (.baload, 1) := by decide +kernel
theorem dX7_isLooked_28 : decode cX7_isLooked 28 = .ok (.ifCond .eq 40, 3) := by decide +kernel
theorem dX7_isLooked_31 : decode cX7_isLooked 31 = .ok (.iload_n 2, 1) := by decide +kernel
theorem dX7_isLooked_32 : decode cX7_isLooked 32 = .ok (.ifCond .ne 24, 3) := by decide +kernel
theorem dX7_isLooked_35 : decode cX7_isLooked 35 = .ok (.aload_n 0, 1) := by decide +kernel
theorem dX7_isLooked_36 : decode cX7_isLooked 36 = .ok (.getfield 23, 3) := by decide +kernel
theorem dX7_isLooked_39 : decode cX7_isLooked 39 = .ok (.sipush 256, 3) := by decide +kernel
theorem dX7_isLooked_42 : decode cX7_isLooked 42 = .ok (.iload_n 3, 1) := by decide +kernel
theorem dX7_isLooked_43 : decode cX7_isLooked 43 = .ok (.imul, 1) := by decide +kernel
theorem dX7_isLooked_44 : decode cX7_isLooked 44 = .ok (.bipush 16, 2) := by decide +kernel
theorem dX7_isLooked_46 : decode cX7_isLooked 46 = .ok (.iload_n 1, 1) := by decide +kernel
theorem dX7_isLooked_47 : decode cX7_isLooked 47 = .ok (.imul, 1) := by decide +kernel
theorem dX7_isLooked_48 : decode cX7_isLooked 48 = .ok (.iadd, 1) := by decide +kernel
theorem dX7_isLooked_49 : decode cX7_isLooked 49 = .ok (.iload 4, 2) := by decide +kernel
theorem dX7_isLooked_51 : decode cX7_isLooked 51 = .ok (.iadd, 1) := by decide +kernel
theorem dX7_isLooked_52 : decode cX7_isLooked 52 = .ok (.baload, 1) := by decide +kernel
theorem dX7_isLooked_53 : decode cX7_isLooked 53 = .ok (.ifCond .eq 7, 3) := by decide +kernel
theorem dX7_isLooked_56 : decode cX7_isLooked 56 = .ok (.iconst 1, 1) := by decide +kernel
theorem dX7_isLooked_57 : decode cX7_isLooked 57 = .ok (.goto 4, 3) := by decide +kernel
theorem dX7_isLooked_60 : decode cX7_isLooked 60 = .ok (.iconst 0, 1) := by decide +kernel
theorem dX7_isLooked_61 : decode cX7_isLooked 61 = .ok (.istore_n 2, 1) := by decide +kernel
theorem dX7_isLooked_62 : decode cX7_isLooked 62 = .ok (.iinc 4 1, 3) := by decide +kernel
theorem dX7_isLooked_65 : decode cX7_isLooked 65 = .ok (.goto (-50), 3) := by decide +kernel
theorem dX7_isLooked_68 : decode cX7_isLooked 68 = .ok (.iinc 3 1, 3) := by decide +kernel
theorem dX7_isLooked_71 : decode cX7_isLooked 71 = .ok (.goto (-67), 3) := by decide +kernel
theorem dX7_isLooked_74 : decode cX7_isLooked 74 = .ok (.iload_n 2, 1) := by decide +kernel
theorem dX7_isLooked_75 : decode cX7_isLooked 75 = .ok (.ireturn, 1) := by decide +kernel
theorem dX7_drop_0 : decode cX7_drop 0 = .ok (.sipush 256, 3) := by decide +kernel
theorem dX7_drop_3 : decode cX7_drop 3 = .ok (.iload_n 1, 1) := by decide +kernel
theorem dX7_drop_4 : decode cX7_drop 4 = .ok (.imul, 1) := by decide +kernel
theorem dX7_drop_5 : decode cX7_drop 5 = .ok (.istore_n 2, 1) := by decide +kernel
theorem dX7_drop_6 : decode cX7_drop 6 = .ok (.iload_n 2, 1) := by decide +kernel
theorem dX7_drop_7 : decode cX7_drop 7 = .ok (.sipush 256, 3) := by decide +kernel
theorem dX7_drop_10 : decode cX7_drop 10 = .ok (.iload_n 1, 1) := by decide +kernel
theorem dX7_drop_11 : decode cX7_drop 11 = .ok (.imul, 1) := by decide +kernel
theorem dX7_drop_12 : decode cX7_drop 12 = .ok (.sipush 256, 3) := by decide +kernel
theorem dX7_drop_15 : decode cX7_drop 15 = .ok (.iadd, 1) := by decide +kernel
theorem dX7_drop_16 : decode cX7_drop 16 = .ok (.if_icmp .ge 45, 3) := by decide +kernel
theorem dX7_drop_19 : decode cX7_drop 19 = .ok (.aload_n 0, 1) := by decide +kernel
theorem dX7_drop_20 : decode cX7_drop 20 = .ok (.getfield 35, 3) := by decide +kernel
theorem dX7_drop_23 : decode cX7_drop 23 = .ok (.iload_n 2, 1) := by decide +kernel
theorem dX7_drop_24 : decode cX7_drop 24 = .ok (.aload_n 0, 1) := by decide +kernel
theorem dX7_drop_25 : decode cX7_drop 25 = .ok (.getfield 20, 3) := by decide +kernel
theorem dX7_drop_28 : decode cX7_drop 28 = .ok (.iload_n 2, 1) := by decide +kernel
theorem dX7_drop_29 : decode cX7_drop 29 = .ok (.baload, 1) := by decide +kernel
theorem dX7_drop_30 : decode cX7_drop 30 = .ok (.bastore, 1) := by decide +kernel
theorem dX7_drop_31 : decode cX7_drop 31 = .ok (.aload_n 0, 1) := by decide +kernel
theorem dX7_drop_32 : decode cX7_drop 32 = .ok (.getfield 38, 3) := by decide +kernel
theorem dX7_drop_35 : decode cX7_drop 35 = .ok (.iload_n 2, 1) := by decide +kernel
theorem dX7_drop_36 : decode cX7_drop 36 = .ok (.aload_n 0, 1) := by decide +kernel
theorem dX7_drop_37 : decode cX7_drop 37 = .ok (.getfield 23, 3) := by decide +kernel
theorem dX7_drop_40 : decode cX7_drop 40 = .ok (.iload_n 2, 1) := by decide +kernel
theorem dX7_drop_41 : decode cX7_drop 41 = .ok (.baload, 1) := by decide +kernel
theorem dX7_drop_42 : decode cX7_drop 42 = .ok (.bastore, 1) := by decide +kernel
theorem dX7_drop_43 : decode cX7_drop 43 = .ok (.aload_n 0, 1) := by decide +kernel
theorem dX7_drop_44 : decode cX7_drop 44 = .ok (.getfield 41, 3) := by decide +kernel
theorem dX7_drop_47 : decode cX7_drop 47 = .ok (.iload_n 2, 1) := by decide +kernel
theorem dX7_drop_48 : decode cX7_drop 48 = .ok (.aload_n 0, 1) := by decide +kernel
theorem dX7_drop_49 : decode cX7_drop 49 = .ok (.getfield 26, 3) := by decide +kernel
theorem dX7_drop_52 : decode cX7_drop 52 = .ok (.iload_n 2, 1) := by decide +kernel
theorem dX7_drop_53 : decode cX7_drop 53 = .ok (.iaload, 1) := by decide +kernel
theorem dX7_drop_54 : decode cX7_drop 54 = .ok (.iastore, 1) := by decide +kernel
theorem dX7_drop_55 : decode cX7_drop 55 = .ok (.iinc 2 1, 3) := by decide +kernel
theorem dX7_drop_58 : decode cX7_drop 58 = .ok (.goto (-52), 3) := by decide +kernel
theorem dX7_drop_61 : decode cX7_drop 61 = .ok (.aload_n 0, 1) := by decide +kernel
theorem dX7_drop_62 : decode cX7_drop 62 = .ok (.getfield 32, 3) := by decide +kernel
theorem dX7_drop_65 : decode cX7_drop 65 = .ok (.iload_n 1, 1) := by decide +kernel
theorem dX7_drop_66 : decode cX7_drop 66 = .ok (.iconst 1, 1) := by decide +kernel
theorem dX7_drop_67 : decode cX7_drop 67 = .ok (.bastore, 1) := by decide +kernel
theorem dX7_drop_68 : decode cX7_drop 68 = .ok (.aload_n 0, 1) := by decide +kernel
theorem dX7_drop_69 : decode cX7_drop 69 = .ok (.getfield 16, 3) := by decide +kernel
theorem dX7_drop_72 : decode cX7_drop 72 = .ok (.iload_n 1, 1) := by decide +kernel
theorem dX7_drop_73 : decode cX7_drop 73 = .ok (.iconst 0, 1) := by decide +kernel
theorem dX7_drop_74 : decode cX7_drop 74 = .ok (.bastore, 1) := by decide +kernel
theorem dX7_drop_75 : decode cX7_drop 75 = .ok (.aload_n 0, 1) := by decide +kernel
theorem dX7_drop_76 : decode cX7_drop 76 = .ok (.getfield 29, 3) := by decide +kernel
theorem dX7_drop_79 : decode cX7_drop 79 = .ok (.iload_n 1, 1) := by decide +kernel
theorem dX7_drop_80 : decode cX7_drop 80 = .ok (.dup2, 1) := by decide +kernel
theorem dX7_drop_81 : decode cX7_drop 81 = .ok (.iaload, 1) := by decide +kernel
theorem dX7_drop_82 : decode cX7_drop 82 = .ok (.iconst 1, 1) := by decide +kernel
theorem dX7_drop_83 : decode cX7_drop 83 = .ok (.iadd, 1) := by decide +kernel
theorem dX7_drop_84 : decode cX7_drop 84 = .ok (.iastore, 1) := by decide +kernel
theorem dX7_drop_85 : decode cX7_drop 85 = .ok (.aload_n 0, 1) := by decide +kernel
theorem dX7_drop_86 : decode cX7_drop 86 = .ok (.dup, 1) := by decide +kernel
theorem dX7_drop_87 : decode cX7_drop 87 = .ok (.getfield 82, 3) := by decide +kernel
theorem dX7_drop_90 : decode cX7_drop 90 = .ok (.iconst 1, 1) := by decide +kernel
theorem dX7_drop_91 : decode cX7_drop 91 = .ok (.iadd, 1) := by decide +kernel
theorem dX7_drop_92 : decode cX7_drop 92 = .ok (.putfield 82, 3) := by decide +kernel
theorem dX7_drop_95 : decode cX7_drop 95 = .ok (.return_, 1) := by decide +kernel
theorem dX7_becomes_0 : decode cX7_becomes 0 = .ok (.aload_n 0, 1) := by decide +kernel
theorem dX7_becomes_1 : decode cX7_becomes 1 = .ok (.getfield 7, 3) := by decide +kernel
theorem dX7_becomes_4 : decode cX7_becomes 4 = .ok (.iload_n 1, 1) := by decide +kernel
theorem dX7_becomes_5 : decode cX7_becomes 5 = .ok (.iaload, 1) := by decide +kernel
theorem dX7_becomes_6 : decode cX7_becomes 6 = .ok (.iload_n 2, 1) := by decide +kernel
theorem dX7_becomes_7 : decode cX7_becomes 7 = .ok (.if_icmp .ne 5, 3) := by decide +kernel
theorem dX7_becomes_10 : decode cX7_becomes 10 = .ok (.iconst (-1), 1) := by decide +kernel
theorem dX7_becomes_11 : decode cX7_becomes 11 = .ok (.ireturn, 1) := by decide +kernel
theorem dX7_becomes_12 : decode cX7_becomes 12 = .ok (.aload_n 0, 1) := by decide +kernel
theorem dX7_becomes_13 : decode cX7_becomes 13 = .ok (.dup, 1) := by decide +kernel
theorem dX7_becomes_14 : decode cX7_becomes 14 = .ok (.getfield 85, 3) := by decide +kernel
theorem dX7_becomes_17 : decode cX7_becomes 17 = .ok (.aload_n 0, 1) := by decide +kernel
theorem dX7_becomes_18 : decode cX7_becomes 18 = .ok (.iload_n 1, 1) := by decide +kernel
theorem dX7_becomes_19 : decode cX7_becomes 19 = .ok (.bipush 16, 2) := by decide +kernel
theorem dX7_becomes_21 : decode cX7_becomes 21 = .ok (.idiv, 1) := by decide +kernel
theorem dX7_becomes_22 : decode cX7_becomes 22 = .ok (.invokevirtual 88, 3) := by decide +kernel
theorem dX7_becomes_25 : decode cX7_becomes 25 = .ok (.ifCond .eq 7, 3) := by decide +kernel
theorem dX7_becomes_28 : decode cX7_becomes 28 = .ok (.iconst 1, 1) := by decide +kernel
theorem dX7_becomes_29 : decode cX7_becomes 29 = .ok (.goto 4, 3) := by decide +kernel
theorem dX7_becomes_32 : decode cX7_becomes 32 = .ok (.iconst 0, 1) := by decide +kernel
theorem dX7_becomes_33 : decode cX7_becomes 33 = .ok (.iadd, 1) := by decide +kernel
theorem dX7_becomes_34 : decode cX7_becomes 34 = .ok (.putfield 85, 3) := by decide +kernel
theorem dX7_becomes_37 : decode cX7_becomes 37 = .ok (.aload_n 0, 1) := by decide +kernel
theorem dX7_becomes_38 : decode cX7_becomes 38 = .ok (.getfield 7, 3) := by decide +kernel
theorem dX7_becomes_41 : decode cX7_becomes 41 = .ok (.iload_n 1, 1) := by decide +kernel
theorem dX7_becomes_42 : decode cX7_becomes 42 = .ok (.iload_n 2, 1) := by decide +kernel
theorem dX7_becomes_43 : decode cX7_becomes 43 = .ok (.iastore, 1) := by decide +kernel
theorem dX7_becomes_44 : decode cX7_becomes 44 = .ok (.iconst 0, 1) := by decide +kernel
theorem dX7_becomes_45 : decode cX7_becomes 45 = .ok (.istore_n 3, 1) := by decide +kernel
theorem dX7_becomes_46 : decode cX7_becomes 46 = .ok (.iconst 0, 1) := by decide +kernel
theorem dX7_becomes_47 : decode cX7_becomes 47 = .ok (.istore 4, 2) := by decide +kernel
theorem dX7_becomes_49 : decode cX7_becomes 49 = .ok (.iload 4, 2) := by decide +kernel
theorem dX7_becomes_51 : decode cX7_becomes 51 = .ok (.aload_n 0, 1) := by decide +kernel
theorem dX7_becomes_52 : decode cX7_becomes 52 = .ok (.getfield 75, 3) := by decide +kernel
theorem dX7_becomes_55 : decode cX7_becomes 55 = .ok (.if_icmp .ge 44, 3) := by decide +kernel
theorem dX7_becomes_58 : decode cX7_becomes 58 = .ok (.aload_n 0, 1) := by decide +kernel
theorem dX7_becomes_59 : decode cX7_becomes 59 = .ok (.getfield 16, 3) := by decide +kernel
theorem dX7_becomes_62 : decode cX7_becomes 62 = .ok (.iload 4, 2) := by decide +kernel
theorem dX7_becomes_64 : decode cX7_becomes 64 = .ok (.baload, 1) := by decide +kernel
theorem dX7_becomes_65 : decode cX7_becomes 65 = .ok (.ifCond .eq 28, 3) := by decide +kernel
theorem dX7_becomes_68 : decode cX7_becomes 68 = .ok (.aload_n 0, 1) := by decide +kernel
theorem dX7_becomes_69 : decode cX7_becomes 69 = .ok (.getfield 23, 3) := by decide +kernel
theorem dX7_becomes_72 : decode cX7_becomes 72 = .ok (.sipush 256, 3) := by decide +kernel
theorem dX7_becomes_75 : decode cX7_becomes 75 = .ok (.iload 4, 2) := by decide +kernel
theorem dX7_becomes_77 : decode cX7_becomes 77 = .ok (.imul, 1) := by decide +kernel
theorem dX7_becomes_78 : decode cX7_becomes 78 = .ok (.iload_n 1, 1) := by decide +kernel
theorem dX7_becomes_79 : decode cX7_becomes 79 = .ok (.iadd, 1) := by decide +kernel
theorem dX7_becomes_80 : decode cX7_becomes 80 = .ok (.baload, 1) := by decide +kernel
theorem dX7_becomes_81 : decode cX7_becomes 81 = .ok (.ifCond .eq 12, 3) := by decide +kernel
theorem dX7_becomes_84 : decode cX7_becomes 84 = .ok (.aload_n 0, 1) := by decide +kernel
theorem dX7_becomes_85 : decode cX7_becomes 85 = .ok (.iload 4, 2) := by decide +kernel
theorem dX7_becomes_87 : decode cX7_becomes 87 = .ok (.invokevirtual 92, 3) := by decide +kernel
theorem dX7_becomes_90 : decode cX7_becomes 90 = .ok (.iinc 3 1, 3) := by decide +kernel
theorem dX7_becomes_93 : decode cX7_becomes 93 = .ok (.iinc 4 1, 3) := by decide +kernel
theorem dX7_becomes_96 : decode cX7_becomes 96 = .ok (.goto (-47), 3) := by decide +kernel
theorem dX7_becomes_99 : decode cX7_becomes 99 = .ok (.iload_n 3, 1) := by decide +kernel
theorem dX7_becomes_100 : decode cX7_becomes 100 = .ok (.ireturn, 1) := by decide +kernel
theorem dX7_note_0 : decode cX7_note 0 = .ok (.iconst 0, 1) := by decide +kernel
theorem dX7_note_1 : decode cX7_note 1 = .ok (.istore_n 1, 1) := by decide +kernel
theorem dX7_note_2 : decode cX7_note 2 = .ok (.iload_n 1, 1) := by decide +kernel
theorem dX7_note_3 : decode cX7_note 3 = .ok (.sipush 256, 3) := by decide +kernel
theorem dX7_note_6 : decode cX7_note 6 = .ok (.if_icmp .ge 21, 3) := by decide +kernel
theorem dX7_note_9 : decode cX7_note 9 = .ok (.aload_n 0, 1) := by decide +kernel
theorem dX7_note_10 : decode cX7_note 10 = .ok (.getfield 50, 3) := by decide +kernel
theorem dX7_note_13 : decode cX7_note 13 = .ok (.iload_n 1, 1) := by decide +kernel
theorem dX7_note_14 : decode cX7_note 14 = .ok (.aload_n 0, 1) := by decide +kernel
theorem dX7_note_15 : decode cX7_note 15 = .ok (.getfield 7, 3) := by decide +kernel
theorem dX7_note_18 : decode cX7_note 18 = .ok (.iload_n 1, 1) := by decide +kernel
theorem dX7_note_19 : decode cX7_note 19 = .ok (.iaload, 1) := by decide +kernel
theorem dX7_note_20 : decode cX7_note 20 = .ok (.iastore, 1) := by decide +kernel
theorem dX7_note_21 : decode cX7_note 21 = .ok (.iinc 1 1, 3) := by decide +kernel
theorem dX7_note_24 : decode cX7_note 24 = .ok (.goto (-22), 3) := by decide +kernel
theorem dX7_note_27 : decode cX7_note 27 = .ok (.return_, 1) := by decide +kernel
theorem dX7_keep_0 : decode cX7_keep 0 = .ok (.aload_n 0, 1) := by decide +kernel
theorem dX7_keep_1 : decode cX7_keep 1 = .ok (.getfield 96, 3) := by decide +kernel
theorem dX7_keep_4 : decode cX7_keep 4 = .ok (.bipush 8, 2) := by decide +kernel
theorem dX7_keep_6 : decode cX7_keep 6 = .ok (.if_icmp .ne 44, 3) := by decide +kernel
theorem dX7_keep_9 : decode cX7_keep 9 = .ok (.iconst 0, 1) := by decide +kernel
theorem dX7_keep_10 : decode cX7_keep 10 = .ok (.istore_n 1, 1) := by decide +kernel
theorem dX7_keep_11 : decode cX7_keep 11 = .ok (.iload_n 1, 1) := by decide +kernel
theorem dX7_keep_12 : decode cX7_keep 12 = .ok (.sipush 1792, 3) := by decide +kernel
theorem dX7_keep_15 : decode cX7_keep 15 = .ok (.if_icmp .ge 25, 3) := by decide +kernel
theorem dX7_keep_18 : decode cX7_keep 18 = .ok (.aload_n 0, 1) := by decide +kernel
theorem dX7_keep_19 : decode cX7_keep 19 = .ok (.getfield 47, 3) := by decide +kernel
theorem dX7_keep_22 : decode cX7_keep 22 = .ok (.iload_n 1, 1) := by decide +kernel
theorem dX7_keep_23 : decode cX7_keep 23 = .ok (.aload_n 0, 1) := by decide +kernel
theorem dX7_keep_24 : decode cX7_keep 24 = .ok (.getfield 47, 3) := by decide +kernel
theorem dX7_keep_27 : decode cX7_keep 27 = .ok (.iload_n 1, 1) := by decide +kernel
theorem dX7_keep_28 : decode cX7_keep 28 = .ok (.sipush 256, 3) := by decide +kernel
theorem dX7_keep_31 : decode cX7_keep 31 = .ok (.iadd, 1) := by decide +kernel
theorem dX7_keep_32 : decode cX7_keep 32 = .ok (.iaload, 1) := by decide +kernel
theorem dX7_keep_33 : decode cX7_keep 33 = .ok (.iastore, 1) := by decide +kernel
theorem dX7_keep_34 : decode cX7_keep 34 = .ok (.iinc 1 1, 3) := by decide +kernel
theorem dX7_keep_37 : decode cX7_keep 37 = .ok (.goto (-26), 3) := by decide +kernel
theorem dX7_keep_40 : decode cX7_keep 40 = .ok (.aload_n 0, 1) := by decide +kernel
theorem dX7_keep_41 : decode cX7_keep 41 = .ok (.dup, 1) := by decide +kernel
theorem dX7_keep_42 : decode cX7_keep 42 = .ok (.getfield 96, 3) := by decide +kernel
theorem dX7_keep_45 : decode cX7_keep 45 = .ok (.iconst 1, 1) := by decide +kernel
theorem dX7_keep_46 : decode cX7_keep 46 = .ok (.isub, 1) := by decide +kernel
theorem dX7_keep_47 : decode cX7_keep 47 = .ok (.putfield 96, 3) := by decide +kernel
theorem dX7_keep_50 : decode cX7_keep 50 = .ok (.iconst 0, 1) := by decide +kernel
theorem dX7_keep_51 : decode cX7_keep 51 = .ok (.istore_n 1, 1) := by decide +kernel
theorem dX7_keep_52 : decode cX7_keep 52 = .ok (.iload_n 1, 1) := by decide +kernel
theorem dX7_keep_53 : decode cX7_keep 53 = .ok (.sipush 256, 3) := by decide +kernel
theorem dX7_keep_56 : decode cX7_keep 56 = .ok (.if_icmp .ge 30, 3) := by decide +kernel
theorem dX7_keep_59 : decode cX7_keep 59 = .ok (.aload_n 0, 1) := by decide +kernel
theorem dX7_keep_60 : decode cX7_keep 60 = .ok (.getfield 47, 3) := by decide +kernel
theorem dX7_keep_63 : decode cX7_keep 63 = .ok (.sipush 256, 3) := by decide +kernel
theorem dX7_keep_66 : decode cX7_keep 66 = .ok (.aload_n 0, 1) := by decide +kernel
theorem dX7_keep_67 : decode cX7_keep 67 = .ok (.getfield 96, 3) := by decide +kernel
theorem dX7_keep_70 : decode cX7_keep 70 = .ok (.imul, 1) := by decide +kernel
theorem dX7_keep_71 : decode cX7_keep 71 = .ok (.iload_n 1, 1) := by decide +kernel
theorem dX7_keep_72 : decode cX7_keep 72 = .ok (.iadd, 1) := by decide +kernel
theorem dX7_keep_73 : decode cX7_keep 73 = .ok (.aload_n 0, 1) := by decide +kernel
theorem dX7_keep_74 : decode cX7_keep 74 = .ok (.getfield 50, 3) := by decide +kernel
theorem dX7_keep_77 : decode cX7_keep 77 = .ok (.iload_n 1, 1) := by decide +kernel
theorem dX7_keep_78 : decode cX7_keep 78 = .ok (.iaload, 1) := by decide +kernel
theorem dX7_keep_79 : decode cX7_keep 79 = .ok (.iastore, 1) := by decide +kernel
theorem dX7_keep_80 : decode cX7_keep 80 = .ok (.iinc 1 1, 3) := by decide +kernel
theorem dX7_keep_83 : decode cX7_keep 83 = .ok (.goto (-31), 3) := by decide +kernel
theorem dX7_keep_86 : decode cX7_keep 86 = .ok (.aload_n 0, 1) := by decide +kernel
theorem dX7_keep_87 : decode cX7_keep 87 = .ok (.dup, 1) := by decide +kernel
theorem dX7_keep_88 : decode cX7_keep 88 = .ok (.getfield 96, 3) := by decide +kernel
theorem dX7_keep_91 : decode cX7_keep 91 = .ok (.iconst 1, 1) := by decide +kernel
theorem dX7_keep_92 : decode cX7_keep 92 = .ok (.iadd, 1) := by decide +kernel
theorem dX7_keep_93 : decode cX7_keep 93 = .ok (.putfield 96, 3) := by decide +kernel
theorem dX7_keep_96 : decode cX7_keep 96 = .ok (.return_, 1) := by decide +kernel
theorem dX7_put_0 : decode cX7_put 0 = .ok (.aload_n 0, 1) := by decide +kernel
theorem dX7_put_1 : decode cX7_put 1 = .ok (.iconst 0, 1) := by decide +kernel
theorem dX7_put_2 : decode cX7_put 2 = .ok (.putfield 71, 3) := by decide +kernel
theorem dX7_put_5 : decode cX7_put 5 = .ok (.iload_n 1, 1) := by decide +kernel
theorem dX7_put_6 : decode cX7_put 6 = .ok (.iconst 0, 1) := by decide +kernel
theorem dX7_put_7 : decode cX7_put 7 = .ok (.sipush 255, 3) := by decide +kernel
theorem dX7_put_10 : decode cX7_put 10 = .ok (.invokestatic 78, 3) := by decide +kernel
theorem dX7_put_13 : decode cX7_put 13 = .ok (.ifCond .eq 14, 3) := by decide +kernel
theorem dX7_put_16 : decode cX7_put 16 = .ok (.iload 4, 2) := by decide +kernel
theorem dX7_put_18 : decode cX7_put 18 = .ok (.iconst 1, 1) := by decide +kernel
theorem dX7_put_19 : decode cX7_put 19 = .ok (.bipush 8, 2) := by decide +kernel
theorem dX7_put_21 : decode cX7_put 21 = .ok (.invokestatic 78, 3) := by decide +kernel
theorem dX7_put_24 : decode cX7_put 24 = .ok (.ifCond .ne 6, 3) := by decide +kernel
theorem dX7_put_27 : decode cX7_put 27 = .ok (.bipush (-2), 2) := by decide +kernel
theorem dX7_put_29 : decode cX7_put 29 = .ok (.ireturn, 1) := by decide +kernel
theorem dX7_put_30 : decode cX7_put 30 = .ok (.aload_n 0, 1) := by decide +kernel
theorem dX7_put_31 : decode cX7_put 31 = .ok (.invokevirtual 99, 3) := by decide +kernel
theorem dX7_put_34 : decode cX7_put 34 = .ok (.iconst 0, 1) := by decide +kernel
theorem dX7_put_35 : decode cX7_put 35 = .ok (.istore 5, 2) := by decide +kernel
theorem dX7_put_37 : decode cX7_put 37 = .ok (.iconst 0, 1) := by decide +kernel
theorem dX7_put_38 : decode cX7_put 38 = .ok (.istore 6, 2) := by decide +kernel
theorem dX7_put_40 : decode cX7_put 40 = .ok (.iconst 0, 1) := by decide +kernel
theorem dX7_put_41 : decode cX7_put 41 = .ok (.istore 7, 2) := by decide +kernel
theorem dX7_put_43 : decode cX7_put 43 = .ok (.iload 7, 2) := by decide +kernel
theorem dX7_put_45 : decode cX7_put 45 = .ok (.iload 4, 2) := by decide +kernel
theorem dX7_put_47 : decode cX7_put 47 = .ok (.if_icmp .ge 73, 3) := by decide +kernel
theorem dX7_put_50 : decode cX7_put 50 = .ok (.aload_n 0, 1) := by decide +kernel
theorem dX7_put_51 : decode cX7_put 51 = .ok (.iload_n 1, 1) := by decide +kernel
theorem dX7_put_52 : decode cX7_put 52 = .ok (.iload 7, 2) := by decide +kernel
theorem dX7_put_54 : decode cX7_put 54 = .ok (.iadd, 1) := by decide +kernel
theorem dX7_put_55 : decode cX7_put 55 = .ok (.sipush 255, 3) := by decide +kernel
theorem dX7_put_58 : decode cX7_put 58 = .ok (.iand, 1) := by decide +kernel
theorem dX7_put_59 : decode cX7_put 59 = .ok (.lload_n 2, 1) := by decide +kernel
theorem dX7_put_60 : decode cX7_put 60 = .ok (.bipush 8, 2) := by decide +kernel
theorem dX7_put_62 : decode cX7_put 62 = .ok (.iload 4, 2) := by decide +kernel
theorem dX7_put_64 : decode cX7_put 64 = .ok (.iconst 1, 1) := by decide +kernel
theorem dX7_put_65 : decode cX7_put 65 = .ok (.isub, 1) := by decide +kernel
theorem dX7_put_66 : decode cX7_put 66 = .ok (.iload 7, 2) := by decide +kernel
theorem dX7_put_68 : decode cX7_put 68 = .ok (.isub, 1) := by decide +kernel
theorem dX7_put_69 : decode cX7_put 69 = .ok (.imul, 1) := by decide +kernel
theorem dX7_put_70 : decode cX7_put 70 = .ok (.lshr, 1) := by decide +kernel
theorem dX7_put_71 : decode cX7_put 71 = .ok (.ldc2_w 102, 3) := by decide +kernel
theorem dX7_put_74 : decode cX7_put 74 = .ok (.land, 1) := by decide +kernel
theorem dX7_put_75 : decode cX7_put 75 = .ok (.l2i, 1) := by decide +kernel
theorem dX7_put_76 : decode cX7_put 76 = .ok (.invokevirtual 104, 3) := by decide +kernel
theorem dX7_put_79 : decode cX7_put 79 = .ok (.istore 8, 2) := by decide +kernel
theorem dX7_put_81 : decode cX7_put 81 = .ok (.iload 6, 2) := by decide +kernel
theorem dX7_put_83 : decode cX7_put 83 = .ok (.ifCond .ne 8, 3) := by decide +kernel
theorem dX7_put_86 : decode cX7_put 86 = .ok (.iload 8, 2) := by decide +kernel
theorem dX7_put_88 : decode cX7_put 88 = .ok (.ifCond .lt 7, 3) := by decide +kernel
theorem dX7_put_91 : decode cX7_put 91 = .ok (.iconst 1, 1) := by decide +kernel
theorem dX7_put_92 : decode cX7_put 92 = .ok (.goto 4, 3) := by decide +kernel
theorem dX7_put_95 : decode cX7_put 95 = .ok (.iconst 0, 1) := by decide +kernel
theorem dX7_put_96 : decode cX7_put 96 = .ok (.istore 6, 2) := by decide +kernel
theorem dX7_put_98 : decode cX7_put 98 = .ok (.iload 5, 2) := by decide +kernel
theorem dX7_put_100 : decode cX7_put 100 = .ok (.iload 8, 2) := by decide +kernel
theorem dX7_put_102 : decode cX7_put 102 = .ok (.ifCond .le 8, 3) := by decide +kernel
theorem dX7_put_105 : decode cX7_put 105 = .ok (.iload 8, 2) := by decide +kernel
theorem dX7_put_107 : decode cX7_put 107 = .ok (.goto 4, 3) := by decide +kernel
theorem dX7_put_110 : decode cX7_put 110 = .ok (.iconst 0, 1) := by decide +kernel
theorem dX7_put_111 : decode cX7_put 111 = .ok (.iadd, 1) := by decide +kernel
theorem dX7_put_112 : decode cX7_put 112 = .ok (.istore 5, 2) := by decide +kernel
theorem dX7_put_114 : decode cX7_put 114 = .ok (.iinc 7 1, 3) := by decide +kernel
theorem dX7_put_117 : decode cX7_put 117 = .ok (.goto (-74), 3) := by decide +kernel
theorem dX7_put_120 : decode cX7_put 120 = .ok (.iload 6, 2) := by decide +kernel
theorem dX7_put_122 : decode cX7_put 122 = .ok (.ifCond .eq 7, 3) := by decide +kernel
theorem dX7_put_125 : decode cX7_put 125 = .ok (.aload_n 0, 1) := by decide +kernel
theorem dX7_put_126 : decode cX7_put 126 = .ok (.invokevirtual 108, 3) := by decide +kernel
theorem dX7_put_129 : decode cX7_put 129 = .ok (.iload 5, 2) := by decide +kernel
theorem dX7_put_131 : decode cX7_put 131 = .ok (.ireturn, 1) := by decide +kernel
theorem dX7_write_0 : decode cX7_write 0 = .ok (.aload_n 0, 1) := by decide +kernel
theorem dX7_write_1 : decode cX7_write 1 = .ok (.iconst 0, 1) := by decide +kernel
theorem dX7_write_2 : decode cX7_write 2 = .ok (.putfield 71, 3) := by decide +kernel
theorem dX7_write_5 : decode cX7_write 5 = .ok (.iload_n 1, 1) := by decide +kernel
theorem dX7_write_6 : decode cX7_write 6 = .ok (.iconst 0, 1) := by decide +kernel
theorem dX7_write_7 : decode cX7_write 7 = .ok (.sipush 255, 3) := by decide +kernel
theorem dX7_write_10 : decode cX7_write 10 = .ok (.invokestatic 78, 3) := by decide +kernel
theorem dX7_write_13 : decode cX7_write 13 = .ok (.ifCond .eq 14, 3) := by decide +kernel
theorem dX7_write_16 : decode cX7_write 16 = .ok (.iload_n 2, 1) := by decide +kernel
theorem dX7_write_17 : decode cX7_write 17 = .ok (.iconst 0, 1) := by decide +kernel
theorem dX7_write_18 : decode cX7_write 18 = .ok (.sipush 255, 3) := by decide +kernel
theorem dX7_write_21 : decode cX7_write 21 = .ok (.invokestatic 78, 3) := by decide +kernel
theorem dX7_write_24 : decode cX7_write 24 = .ok (.ifCond .ne 6, 3) := by decide +kernel
theorem dX7_write_27 : decode cX7_write 27 = .ok (.bipush (-2), 2) := by decide +kernel
theorem dX7_write_29 : decode cX7_write 29 = .ok (.ireturn, 1) := by decide +kernel
theorem dX7_write_30 : decode cX7_write 30 = .ok (.aload_n 0, 1) := by decide +kernel
theorem dX7_write_31 : decode cX7_write 31 = .ok (.invokevirtual 99, 3) := by decide +kernel
theorem dX7_write_34 : decode cX7_write 34 = .ok (.aload_n 0, 1) := by decide +kernel
theorem dX7_write_35 : decode cX7_write 35 = .ok (.iload_n 1, 1) := by decide +kernel
theorem dX7_write_36 : decode cX7_write 36 = .ok (.iload_n 2, 1) := by decide +kernel
theorem dX7_write_37 : decode cX7_write 37 = .ok (.invokevirtual 104, 3) := by decide +kernel
theorem dX7_write_40 : decode cX7_write 40 = .ok (.istore_n 3, 1) := by decide +kernel
theorem dX7_write_41 : decode cX7_write 41 = .ok (.iload_n 3, 1) := by decide +kernel
theorem dX7_write_42 : decode cX7_write 42 = .ok (.ifCond .lt 7, 3) := by decide +kernel
theorem dX7_write_45 : decode cX7_write 45 = .ok (.aload_n 0, 1) := by decide +kernel
theorem dX7_write_46 : decode cX7_write 46 = .ok (.invokevirtual 108, 3) := by decide +kernel
theorem dX7_write_49 : decode cX7_write 49 = .ok (.iload_n 3, 1) := by decide +kernel
theorem dX7_write_50 : decode cX7_write 50 = .ok (.ifCond .le 7, 3) := by decide +kernel
theorem dX7_write_53 : decode cX7_write 53 = .ok (.iload_n 3, 1) := by decide +kernel
theorem dX7_write_54 : decode cX7_write 54 = .ok (.goto 4, 3) := by decide +kernel
theorem dX7_write_57 : decode cX7_write 57 = .ok (.iconst 0, 1) := by decide +kernel
theorem dX7_write_58 : decode cX7_write 58 = .ok (.ireturn, 1) := by decide +kernel
theorem dX7_read_0 : decode cX7_read 0 = .ok (.aload_n 0, 1) := by decide +kernel
theorem dX7_read_1 : decode cX7_read 1 = .ok (.iload_n 1, 1) := by decide +kernel
theorem dX7_read_2 : decode cX7_read 2 = .ok (.iconst 0, 1) := by decide +kernel
theorem dX7_read_3 : decode cX7_read 3 = .ok (.sipush 255, 3) := by decide +kernel
theorem dX7_read_6 : decode cX7_read 6 = .ok (.invokestatic 78, 3) := by decide +kernel
theorem dX7_read_9 : decode cX7_read 9 = .ok (.ifCond .eq 7, 3) := by decide +kernel
theorem dX7_read_12 : decode cX7_read 12 = .ok (.iconst 0, 1) := by decide +kernel
theorem dX7_read_13 : decode cX7_read 13 = .ok (.goto 4, 3) := by decide +kernel
theorem dX7_read_16 : decode cX7_read 16 = .ok (.iconst 1, 1) := by decide +kernel
theorem dX7_read_17 : decode cX7_read 17 = .ok (.putfield 71, 3) := by decide +kernel
theorem dX7_read_20 : decode cX7_read 20 = .ok (.aload_n 0, 1) := by decide +kernel
theorem dX7_read_21 : decode cX7_read 21 = .ok (.getfield 71, 3) := by decide +kernel
theorem dX7_read_24 : decode cX7_read 24 = .ok (.ifCond .ne 12, 3) := by decide +kernel
theorem dX7_read_27 : decode cX7_read 27 = .ok (.aload_n 0, 1) := by decide +kernel
theorem dX7_read_28 : decode cX7_read 28 = .ok (.getfield 7, 3) := by decide +kernel
theorem dX7_read_31 : decode cX7_read 31 = .ok (.iload_n 1, 1) := by decide +kernel
theorem dX7_read_32 : decode cX7_read 32 = .ok (.iaload, 1) := by decide +kernel
theorem dX7_read_33 : decode cX7_read 33 = .ok (.goto 4, 3) := by decide +kernel
theorem dX7_read_36 : decode cX7_read 36 = .ok (.iconst 0, 1) := by decide +kernel
theorem dX7_read_37 : decode cX7_read 37 = .ok (.ireturn, 1) := by decide +kernel
theorem dX7_routine_0 : decode cX7_routine 0 = .ok (.aload_n 0, 1) := by decide +kernel
theorem dX7_routine_1 : decode cX7_routine 1 = .ok (.iconst 0, 1) := by decide +kernel
theorem dX7_routine_2 : decode cX7_routine 2 = .ok (.putfield 71, 3) := by decide +kernel
theorem dX7_routine_5 : decode cX7_routine 5 = .ok (.iload_n 1, 1) := by decide +kernel
theorem dX7_routine_6 : decode cX7_routine 6 = .ok (.iconst 0, 1) := by decide +kernel
theorem dX7_routine_7 : decode cX7_routine 7 = .ok (.sipush 255, 3) := by decide +kernel
theorem dX7_routine_10 : decode cX7_routine 10 = .ok (.invokestatic 78, 3) := by decide +kernel
theorem dX7_routine_13 : decode cX7_routine 13 = .ok (.ifCond .ne 6, 3) := by decide +kernel
theorem dX7_routine_16 : decode cX7_routine 16 = .ok (.bipush (-2), 2) := by decide +kernel
theorem dX7_routine_18 : decode cX7_routine 18 = .ok (.ireturn, 1) := by decide +kernel
theorem dX7_routine_19 : decode cX7_routine 19 = .ok (.aload_n 0, 1) := by decide +kernel
theorem dX7_routine_20 : decode cX7_routine 20 = .ok (.getfield 75, 3) := by decide +kernel
theorem dX7_routine_23 : decode cX7_routine 23 = .ok (.bipush 10, 2) := by decide +kernel
theorem dX7_routine_25 : decode cX7_routine 25 = .ok (.if_icmp .ne 6, 3) := by decide +kernel
theorem dX7_routine_28 : decode cX7_routine 28 = .ok (.bipush (-4), 2) := by decide +kernel
theorem dX7_routine_30 : decode cX7_routine 30 = .ok (.ireturn, 1) := by decide +kernel
theorem dX7_routine_31 : decode cX7_routine 31 = .ok (.aload_n 0, 1) := by decide +kernel
theorem dX7_routine_32 : decode cX7_routine 32 = .ok (.getfield 13, 3) := by decide +kernel
theorem dX7_routine_35 : decode cX7_routine 35 = .ok (.aload_n 0, 1) := by decide +kernel
theorem dX7_routine_36 : decode cX7_routine 36 = .ok (.getfield 75, 3) := by decide +kernel
theorem dX7_routine_39 : decode cX7_routine 39 = .ok (.iload_n 1, 1) := by decide +kernel
theorem dX7_routine_40 : decode cX7_routine 40 = .ok (.iastore, 1) := by decide +kernel
theorem dX7_routine_41 : decode cX7_routine 41 = .ok (.aload_n 0, 1) := by decide +kernel
theorem dX7_routine_42 : decode cX7_routine 42 = .ok (.getfield 16, 3) := by decide +kernel
theorem dX7_routine_45 : decode cX7_routine 45 = .ok (.aload_n 0, 1) := by decide +kernel
theorem dX7_routine_46 : decode cX7_routine 46 = .ok (.getfield 75, 3) := by decide +kernel
theorem dX7_routine_49 : decode cX7_routine 49 = .ok (.iconst 0, 1) := by decide +kernel
theorem dX7_routine_50 : decode cX7_routine 50 = .ok (.bastore, 1) := by decide +kernel
theorem dX7_routine_51 : decode cX7_routine 51 = .ok (.aload_n 0, 1) := by decide +kernel
theorem dX7_routine_52 : decode cX7_routine 52 = .ok (.getfield 32, 3) := by decide +kernel
theorem dX7_routine_55 : decode cX7_routine 55 = .ok (.aload_n 0, 1) := by decide +kernel
theorem dX7_routine_56 : decode cX7_routine 56 = .ok (.getfield 75, 3) := by decide +kernel
theorem dX7_routine_59 : decode cX7_routine 59 = .ok (.iconst 0, 1) := by decide +kernel
theorem dX7_routine_60 : decode cX7_routine 60 = .ok (.bastore, 1) := by decide +kernel
theorem dX7_routine_61 : decode cX7_routine 61 = .ok (.aload_n 0, 1) := by decide +kernel
theorem dX7_routine_62 : decode cX7_routine 62 = .ok (.getfield 29, 3) := by decide +kernel
theorem dX7_routine_65 : decode cX7_routine 65 = .ok (.aload_n 0, 1) := by decide +kernel
theorem dX7_routine_66 : decode cX7_routine 66 = .ok (.getfield 75, 3) := by decide +kernel
theorem dX7_routine_69 : decode cX7_routine 69 = .ok (.iconst 0, 1) := by decide +kernel
theorem dX7_routine_70 : decode cX7_routine 70 = .ok (.iastore, 1) := by decide +kernel
theorem dX7_routine_71 : decode cX7_routine 71 = .ok (.aload_n 0, 1) := by decide +kernel
theorem dX7_routine_72 : decode cX7_routine 72 = .ok (.dup, 1) := by decide +kernel
theorem dX7_routine_73 : decode cX7_routine 73 = .ok (.getfield 75, 3) := by decide +kernel
theorem dX7_routine_76 : decode cX7_routine 76 = .ok (.iconst 1, 1) := by decide +kernel
theorem dX7_routine_77 : decode cX7_routine 77 = .ok (.iadd, 1) := by decide +kernel
theorem dX7_routine_78 : decode cX7_routine 78 = .ok (.putfield 75, 3) := by decide +kernel
theorem dX7_routine_81 : decode cX7_routine 81 = .ok (.aload_n 0, 1) := by decide +kernel
theorem dX7_routine_82 : decode cX7_routine 82 = .ok (.getfield 75, 3) := by decide +kernel
theorem dX7_routine_85 : decode cX7_routine 85 = .ok (.iconst 1, 1) := by decide +kernel
theorem dX7_routine_86 : decode cX7_routine 86 = .ok (.isub, 1) := by decide +kernel
theorem dX7_routine_87 : decode cX7_routine 87 = .ok (.ireturn, 1) := by decide +kernel
theorem dX7_isLong_0 : decode cX7_isLong 0 = .ok (.iload_n 0, 1) := by decide +kernel
theorem dX7_isLong_1 : decode cX7_isLong 1 = .ok (.iconst 1, 1) := by decide +kernel
theorem dX7_isLong_2 : decode cX7_isLong 2 = .ok (.if_icmp .eq 19, 3) := by decide +kernel
theorem dX7_isLong_5 : decode cX7_isLong 5 = .ok (.iload_n 0, 1) := by decide +kernel
theorem dX7_isLong_6 : decode cX7_isLong 6 = .ok (.iconst 2, 1) := by decide +kernel
theorem dX7_isLong_7 : decode cX7_isLong 7 = .ok (.if_icmp .eq 14, 3) := by decide +kernel
theorem dX7_isLong_10 : decode cX7_isLong 10 = .ok (.iload_n 0, 1) := by decide +kernel
theorem dX7_isLong_11 : decode cX7_isLong 11 = .ok (.iconst 4, 1) := by decide +kernel
theorem dX7_isLong_12 : decode cX7_isLong 12 = .ok (.if_icmp .lt 13, 3) := by decide +kernel
theorem dX7_isLong_15 : decode cX7_isLong 15 = .ok (.iload_n 0, 1) := by decide +kernel
theorem dX7_isLong_16 : decode cX7_isLong 16 = .ok (.bipush 9, 2) := by decide +kernel
theorem dX7_isLong_18 : decode cX7_isLong 18 = .ok (.if_icmp .gt 7, 3) := by decide +kernel
theorem dX7_isLong_21 : decode cX7_isLong 21 = .ok (.iconst 1, 1) := by decide +kernel
theorem dX7_isLong_22 : decode cX7_isLong 22 = .ok (.goto 4, 3) := by decide +kernel
theorem dX7_isLong_25 : decode cX7_isLong 25 = .ok (.iconst 0, 1) := by decide +kernel
theorem dX7_isLong_26 : decode cX7_isLong 26 = .ok (.ireturn, 1) := by decide +kernel
theorem dX7_behind_0 : decode cX7_behind 0 = .ok (.iload_n 1, 1) := by decide +kernel
theorem dX7_behind_1 : decode cX7_behind 1 = .ok (.aload_n 0, 1) := by decide +kernel
theorem dX7_behind_2 : decode cX7_behind 2 = .ok (.getfield 7, 3) := by decide +kernel
theorem dX7_behind_5 : decode cX7_behind 5 = .ok (.iload_n 1, 1) := by decide +kernel
theorem dX7_behind_6 : decode cX7_behind 6 = .ok (.iaload, 1) := by decide +kernel
theorem dX7_behind_7 : decode cX7_behind 7 = .ok (.invokestatic 111, 3) := by decide +kernel
theorem dX7_behind_10 : decode cX7_behind 10 = .ok (.ifCond .eq 7, 3) := by decide +kernel
theorem dX7_behind_13 : decode cX7_behind 13 = .ok (.iconst 2, 1) := by decide +kernel
theorem dX7_behind_14 : decode cX7_behind 14 = .ok (.goto 4, 3) := by decide +kernel
theorem dX7_behind_17 : decode cX7_behind 17 = .ok (.iconst 1, 1) := by decide +kernel
theorem dX7_behind_18 : decode cX7_behind 18 = .ok (.iadd, 1) := by decide +kernel
theorem dX7_behind_19 : decode cX7_behind 19 = .ok (.sipush 255, 3) := by decide +kernel
theorem dX7_behind_22 : decode cX7_behind 22 = .ok (.iand, 1) := by decide +kernel
theorem dX7_behind_23 : decode cX7_behind 23 = .ok (.ireturn, 1) := by decide +kernel
theorem dX7_other_0 : decode cX7_other 0 = .ok (.iload_n 1, 1) := by decide +kernel
theorem dX7_other_1 : decode cX7_other 1 = .ok (.iconst 2, 1) := by decide +kernel
theorem dX7_other_2 : decode cX7_other 2 = .ok (.iadd, 1) := by decide +kernel
theorem dX7_other_3 : decode cX7_other 3 = .ok (.aload_n 0, 1) := by decide +kernel
theorem dX7_other_4 : decode cX7_other 4 = .ok (.getfield 7, 3) := by decide +kernel
theorem dX7_other_7 : decode cX7_other 7 = .ok (.iload_n 1, 1) := by decide +kernel
theorem dX7_other_8 : decode cX7_other 8 = .ok (.iconst 1, 1) := by decide +kernel
theorem dX7_other_9 : decode cX7_other 9 = .ok (.iadd, 1) := by decide +kernel
theorem dX7_other_10 : decode cX7_other 10 = .ok (.sipush 255, 3) := by decide +kernel
theorem dX7_other_13 : decode cX7_other 13 = .ok (.iand, 1) := by decide +kernel
theorem dX7_other_14 : decode cX7_other 14 = .ok (.iaload, 1) := by decide +kernel
theorem dX7_other_15 : decode cX7_other 15 = .ok (.i2b, 1) := by decide +kernel
theorem dX7_other_16 : decode cX7_other 16 = .ok (.iadd, 1) := by decide +kernel
theorem dX7_other_17 : decode cX7_other 17 = .ok (.sipush 255, 3) := by decide +kernel
theorem dX7_other_20 : decode cX7_other 20 = .ok (.iand, 1) := by decide +kernel
theorem dX7_other_21 : decode cX7_other 21 = .ok (.ireturn, 1) := by decide +kernel
theorem dX7_find_0 : decode cX7_find 0 = .ok (.iconst 0, 1) := by decide +kernel
theorem dX7_find_1 : decode cX7_find 1 = .ok (.istore_n 2, 1) := by decide +kernel
theorem dX7_find_2 : decode cX7_find 2 = .ok (.iload_n 2, 1) := by decide +kernel
theorem dX7_find_3 : decode cX7_find 3 = .ok (.sipush 256, 3) := by decide +kernel
theorem dX7_find_6 : decode cX7_find 6 = .ok (.if_icmp .ge 30, 3) := by decide +kernel
theorem dX7_find_9 : decode cX7_find 9 = .ok (.aload_n 0, 1) := by decide +kernel
theorem dX7_find_10 : decode cX7_find 10 = .ok (.getfield 56, 3) := by decide +kernel
theorem dX7_find_13 : decode cX7_find 13 = .ok (.iload_n 2, 1) := by decide +kernel
theorem dX7_find_14 : decode cX7_find 14 = .ok (.iconst 0, 1) := by decide +kernel
theorem dX7_find_15 : decode cX7_find 15 = .ok (.bastore, 1) := by decide +kernel
theorem dX7_find_16 : decode cX7_find 16 = .ok (.aload_n 0, 1) := by decide +kernel
theorem dX7_find_17 : decode cX7_find 17 = .ok (.getfield 59, 3) := by decide +kernel
theorem dX7_find_20 : decode cX7_find 20 = .ok (.iload_n 2, 1) := by decide +kernel
theorem dX7_find_21 : decode cX7_find 21 = .ok (.iconst 0, 1) := by decide +kernel
theorem dX7_find_22 : decode cX7_find 22 = .ok (.bastore, 1) := by decide +kernel
theorem dX7_find_23 : decode cX7_find 23 = .ok (.aload_n 0, 1) := by decide +kernel
theorem dX7_find_24 : decode cX7_find 24 = .ok (.getfield 62, 3) := by decide +kernel
theorem dX7_find_27 : decode cX7_find 27 = .ok (.iload_n 2, 1) := by decide +kernel
theorem dX7_find_28 : decode cX7_find 28 = .ok (.iconst 0, 1) := by decide +kernel
theorem dX7_find_29 : decode cX7_find 29 = .ok (.iastore, 1) := by decide +kernel
theorem dX7_find_30 : decode cX7_find 30 = .ok (.iinc 2 1, 3) := by decide +kernel
theorem dX7_find_33 : decode cX7_find 33 = .ok (.goto (-31), 3) := by decide +kernel
theorem dX7_find_36 : decode cX7_find 36 = .ok (.aload_n 0, 1) := by decide +kernel
theorem dX7_find_37 : decode cX7_find 37 = .ok (.getfield 56, 3) := by decide +kernel
theorem dX7_find_40 : decode cX7_find 40 = .ok (.iload_n 1, 1) := by decide +kernel
theorem dX7_find_41 : decode cX7_find 41 = .ok (.iconst 1, 1) := by decide +kernel
theorem dX7_find_42 : decode cX7_find 42 = .ok (.bastore, 1) := by decide +kernel
theorem dX7_find_43 : decode cX7_find 43 = .ok (.iconst 1, 1) := by decide +kernel
theorem dX7_find_44 : decode cX7_find 44 = .ok (.istore_n 2, 1) := by decide +kernel
theorem dX7_find_45 : decode cX7_find 45 = .ok (.iload_n 2, 1) := by decide +kernel
theorem dX7_find_46 : decode cX7_find 46 = .ok (.ifCond .eq 153, 3) := by decide +kernel
theorem dX7_find_49 : decode cX7_find 49 = .ok (.iconst 0, 1) := by decide +kernel
theorem dX7_find_50 : decode cX7_find 50 = .ok (.istore_n 2, 1) := by decide +kernel
theorem dX7_find_51 : decode cX7_find 51 = .ok (.iconst 0, 1) := by decide +kernel
theorem dX7_find_52 : decode cX7_find 52 = .ok (.istore_n 3, 1) := by decide +kernel
theorem dX7_find_53 : decode cX7_find 53 = .ok (.iload_n 3, 1) := by decide +kernel
theorem dX7_find_54 : decode cX7_find 54 = .ok (.sipush 256, 3) := by decide +kernel
theorem dX7_find_57 : decode cX7_find 57 = .ok (.if_icmp .ge 139, 3) := by decide +kernel
theorem dX7_find_60 : decode cX7_find 60 = .ok (.aload_n 0, 1) := by decide +kernel
theorem dX7_find_61 : decode cX7_find 61 = .ok (.getfield 56, 3) := by decide +kernel
theorem dX7_find_64 : decode cX7_find 64 = .ok (.iload_n 3, 1) := by decide +kernel
theorem dX7_find_65 : decode cX7_find 65 = .ok (.baload, 1) := by decide +kernel
theorem dX7_find_66 : decode cX7_find 66 = .ok (.ifCond .eq 124, 3) := by decide +kernel
theorem dX7_find_69 : decode cX7_find 69 = .ok (.aload_n 0, 1) := by decide +kernel
theorem dX7_find_70 : decode cX7_find 70 = .ok (.getfield 59, 3) := by decide +kernel
theorem dX7_find_73 : decode cX7_find 73 = .ok (.iload_n 3, 1) := by decide +kernel
theorem dX7_find_74 : decode cX7_find 74 = .ok (.baload, 1) := by decide +kernel
theorem dX7_find_75 : decode cX7_find 75 = .ok (.ifCond .ne 115, 3) := by decide +kernel
theorem dX7_find_78 : decode cX7_find 78 = .ok (.aload_n 0, 1) := by decide +kernel
theorem dX7_find_79 : decode cX7_find 79 = .ok (.getfield 59, 3) := by decide +kernel
theorem dX7_find_82 : decode cX7_find 82 = .ok (.iload_n 3, 1) := by decide +kernel
theorem dX7_find_83 : decode cX7_find 83 = .ok (.iconst 1, 1) := by decide +kernel
theorem dX7_find_84 : decode cX7_find 84 = .ok (.bastore, 1) := by decide +kernel
theorem dX7_find_85 : decode cX7_find 85 = .ok (.iconst 1, 1) := by decide +kernel
theorem dX7_find_86 : decode cX7_find 86 = .ok (.istore_n 2, 1) := by decide +kernel
theorem dX7_find_87 : decode cX7_find 87 = .ok (.aload_n 0, 1) := by decide +kernel
theorem dX7_find_88 : decode cX7_find 88 = .ok (.getfield 7, 3) := by decide +kernel
theorem dX7_find_91 : decode cX7_find 91 = .ok (.iload_n 3, 1) := by decide +kernel
theorem dX7_find_92 : decode cX7_find 92 = .ok (.iaload, 1) := by decide +kernel
theorem dX7_find_93 : decode cX7_find 93 = .ok (.istore 4, 2) := by decide +kernel
theorem dX7_find_95 : decode cX7_find 95 = .ok (.iload 4, 2) := by decide +kernel
theorem dX7_find_97 : decode cX7_find 97 = .ok (.bipush 12, 2) := by decide +kernel
theorem dX7_find_99 : decode cX7_find 99 = .ok (.if_icmp .le 5, 3) := by decide +kernel
theorem dX7_find_102 : decode cX7_find 102 = .ok (.iconst 0, 1) := by decide +kernel
theorem dX7_find_103 : decode cX7_find 103 = .ok (.ireturn, 1) := by decide +kernel
theorem dX7_find_104 : decode cX7_find 104 = .ok (.aload_n 0, 1) := by decide +kernel
theorem dX7_find_105 : decode cX7_find 105 = .ok (.getfield 62, 3) := by decide +kernel
theorem dX7_find_108 : decode cX7_find 108 = .ok (.iload_n 3, 1) := by decide +kernel
theorem dX7_find_109 : decode cX7_find 109 = .ok (.dup2, 1) := by decide +kernel
theorem dX7_find_110 : decode cX7_find 110 = .ok (.iaload, 1) := by decide +kernel
theorem dX7_find_111 : decode cX7_find 111 = .ok (.iconst 1, 1) := by decide +kernel
theorem dX7_find_112 : decode cX7_find 112 = .ok (.iadd, 1) := by decide +kernel
theorem dX7_find_113 : decode cX7_find 113 = .ok (.iastore, 1) := by decide +kernel
theorem dX7_find_114 : decode cX7_find 114 = .ok (.aload_n 0, 1) := by decide +kernel
theorem dX7_find_115 : decode cX7_find 115 = .ok (.getfield 62, 3) := by decide +kernel
theorem dX7_find_118 : decode cX7_find 118 = .ok (.iload_n 3, 1) := by decide +kernel
theorem dX7_find_119 : decode cX7_find 119 = .ok (.iconst 1, 1) := by decide +kernel
theorem dX7_find_120 : decode cX7_find 120 = .ok (.iadd, 1) := by decide +kernel
theorem dX7_find_121 : decode cX7_find 121 = .ok (.sipush 255, 3) := by decide +kernel
theorem dX7_find_124 : decode cX7_find 124 = .ok (.iand, 1) := by decide +kernel
theorem dX7_find_125 : decode cX7_find 125 = .ok (.dup2, 1) := by decide +kernel
theorem dX7_find_126 : decode cX7_find 126 = .ok (.iaload, 1) := by decide +kernel
theorem dX7_find_127 : decode cX7_find 127 = .ok (.iload 4, 2) := by decide +kernel
theorem dX7_find_129 : decode cX7_find 129 = .ok (.invokestatic 111, 3) := by decide +kernel
theorem dX7_find_132 : decode cX7_find 132 = .ok (.ifCond .eq 7, 3) := by decide +kernel
theorem dX7_find_135 : decode cX7_find 135 = .ok (.iconst 1, 1) := by decide +kernel
theorem dX7_find_136 : decode cX7_find 136 = .ok (.goto 4, 3) := by decide +kernel
theorem dX7_find_139 : decode cX7_find 139 = .ok (.iconst 0, 1) := by decide +kernel
theorem dX7_find_140 : decode cX7_find 140 = .ok (.iadd, 1) := by decide +kernel
theorem dX7_find_141 : decode cX7_find 141 = .ok (.iastore, 1) := by decide +kernel
theorem dX7_find_142 : decode cX7_find 142 = .ok (.iload 4, 2) := by decide +kernel
theorem dX7_find_144 : decode cX7_find 144 = .ok (.ifCond .eq 21, 3) := by decide +kernel
theorem dX7_find_147 : decode cX7_find 147 = .ok (.iload 4, 2) := by decide +kernel
theorem dX7_find_149 : decode cX7_find 149 = .ok (.bipush 6, 2) := by decide +kernel
theorem dX7_find_151 : decode cX7_find 151 = .ok (.if_icmp .eq 14, 3) := by decide +kernel
theorem dX7_find_154 : decode cX7_find 154 = .ok (.aload_n 0, 1) := by decide +kernel
theorem dX7_find_155 : decode cX7_find 155 = .ok (.getfield 56, 3) := by decide +kernel
theorem dX7_find_158 : decode cX7_find 158 = .ok (.aload_n 0, 1) := by decide +kernel
theorem dX7_find_159 : decode cX7_find 159 = .ok (.iload_n 3, 1) := by decide +kernel
theorem dX7_find_160 : decode cX7_find 160 = .ok (.invokevirtual 114, 3) := by decide +kernel
theorem dX7_find_163 : decode cX7_find 163 = .ok (.iconst 1, 1) := by decide +kernel
theorem dX7_find_164 : decode cX7_find 164 = .ok (.bastore, 1) := by decide +kernel
theorem dX7_find_165 : decode cX7_find 165 = .ok (.iload 4, 2) := by decide +kernel
theorem dX7_find_167 : decode cX7_find 167 = .ok (.bipush 6, 2) := by decide +kernel
theorem dX7_find_169 : decode cX7_find 169 = .ok (.if_icmp .lt 21, 3) := by decide +kernel
theorem dX7_find_172 : decode cX7_find 172 = .ok (.iload 4, 2) := by decide +kernel
theorem dX7_find_174 : decode cX7_find 174 = .ok (.bipush 8, 2) := by decide +kernel
theorem dX7_find_176 : decode cX7_find 176 = .ok (.if_icmp .gt 14, 3) := by decide +kernel
theorem dX7_find_179 : decode cX7_find 179 = .ok (.aload_n 0, 1) := by decide +kernel
theorem dX7_find_180 : decode cX7_find 180 = .ok (.getfield 56, 3) := by decide +kernel
theorem dX7_find_183 : decode cX7_find 183 = .ok (.aload_n 0, 1) := by decide +kernel
theorem dX7_find_184 : decode cX7_find 184 = .ok (.iload_n 3, 1) := by decide +kernel
theorem dX7_find_185 : decode cX7_find 185 = .ok (.invokevirtual 118, 3) := by decide +kernel
theorem dX7_find_188 : decode cX7_find 188 = .ok (.iconst 1, 1) := by decide +kernel
theorem dX7_find_189 : decode cX7_find 189 = .ok (.bastore, 1) := by decide +kernel
theorem dX7_find_190 : decode cX7_find 190 = .ok (.iinc 3 1, 3) := by decide +kernel
theorem dX7_find_193 : decode cX7_find 193 = .ok (.goto (-140), 3) := by decide +kernel
theorem dX7_find_196 : decode cX7_find 196 = .ok (.goto (-151), 3) := by decide +kernel
theorem dX7_find_199 : decode cX7_find 199 = .ok (.iconst 0, 1) := by decide +kernel
theorem dX7_find_200 : decode cX7_find 200 = .ok (.istore_n 3, 1) := by decide +kernel
theorem dX7_find_201 : decode cX7_find 201 = .ok (.iconst 1, 1) := by decide +kernel
theorem dX7_find_202 : decode cX7_find 202 = .ok (.istore 4, 2) := by decide +kernel
theorem dX7_find_204 : decode cX7_find 204 = .ok (.iconst 0, 1) := by decide +kernel
theorem dX7_find_205 : decode cX7_find 205 = .ok (.istore 5, 2) := by decide +kernel
theorem dX7_find_207 : decode cX7_find 207 = .ok (.iload 5, 2) := by decide +kernel
theorem dX7_find_209 : decode cX7_find 209 = .ok (.sipush 256, 3) := by decide +kernel
theorem dX7_find_212 : decode cX7_find 212 = .ok (.if_icmp .ge 50, 3) := by decide +kernel
theorem dX7_find_215 : decode cX7_find 215 = .ok (.iload_n 3, 1) := by decide +kernel
theorem dX7_find_216 : decode cX7_find 216 = .ok (.aload_n 0, 1) := by decide +kernel
theorem dX7_find_217 : decode cX7_find 217 = .ok (.getfield 56, 3) := by decide +kernel
theorem dX7_find_220 : decode cX7_find 220 = .ok (.iload 5, 2) := by decide +kernel
theorem dX7_find_222 : decode cX7_find 222 = .ok (.baload, 1) := by decide +kernel
theorem dX7_find_223 : decode cX7_find 223 = .ok (.ifCond .eq 7, 3) := by decide +kernel
theorem dX7_find_226 : decode cX7_find 226 = .ok (.iconst 1, 1) := by decide +kernel
theorem dX7_find_227 : decode cX7_find 227 = .ok (.goto 4, 3) := by decide +kernel
theorem dX7_find_230 : decode cX7_find 230 = .ok (.iconst 0, 1) := by decide +kernel
theorem dX7_find_231 : decode cX7_find 231 = .ok (.iadd, 1) := by decide +kernel
theorem dX7_find_232 : decode cX7_find 232 = .ok (.istore_n 3, 1) := by decide +kernel
theorem dX7_find_233 : decode cX7_find 233 = .ok (.iload 4, 2) := by decide +kernel
theorem dX7_find_235 : decode cX7_find 235 = .ok (.ifCond .eq 18, 3) := by decide +kernel
theorem dX7_find_238 : decode cX7_find 238 = .ok (.aload_n 0, 1) := by decide +kernel
theorem dX7_find_239 : decode cX7_find 239 = .ok (.getfield 62, 3) := by decide +kernel
theorem dX7_find_242 : decode cX7_find 242 = .ok (.iload 5, 2) := by decide +kernel
theorem dX7_find_244 : decode cX7_find 244 = .ok (.iaload, 1) := by decide +kernel
theorem dX7_find_245 : decode cX7_find 245 = .ok (.iconst 2, 1) := by decide +kernel
theorem dX7_find_246 : decode cX7_find 246 = .ok (.if_icmp .ge 7, 3) := by decide +kernel
theorem dX7_find_249 : decode cX7_find 249 = .ok (.iconst 1, 1) := by decide +kernel
theorem dX7_find_250 : decode cX7_find 250 = .ok (.goto 4, 3) := by decide +kernel
theorem dX7_find_253 : decode cX7_find 253 = .ok (.iconst 0, 1) := by decide +kernel
theorem dX7_find_254 : decode cX7_find 254 = .ok (.istore 4, 2) := by decide +kernel
theorem dX7_find_256 : decode cX7_find 256 = .ok (.iinc 5 1, 3) := by decide +kernel
theorem dX7_find_259 : decode cX7_find 259 = .ok (.goto (-52), 3) := by decide +kernel
theorem dX7_find_262 : decode cX7_find 262 = .ok (.iload_n 3, 1) := by decide +kernel
theorem dX7_find_263 : decode cX7_find 263 = .ok (.bipush 24, 2) := by decide +kernel
theorem dX7_find_265 : decode cX7_find 265 = .ok (.if_icmp .gt 12, 3) := by decide +kernel
theorem dX7_find_268 : decode cX7_find 268 = .ok (.iload 4, 2) := by decide +kernel
theorem dX7_find_270 : decode cX7_find 270 = .ok (.ifCond .eq 7, 3) := by decide +kernel
theorem dX7_find_273 : decode cX7_find 273 = .ok (.iconst 1, 1) := by decide +kernel
theorem dX7_find_274 : decode cX7_find 274 = .ok (.goto 4, 3) := by decide +kernel
theorem dX7_find_277 : decode cX7_find 277 = .ok (.iconst 0, 1) := by decide +kernel
theorem dX7_find_278 : decode cX7_find 278 = .ok (.ireturn, 1) := by decide +kernel
theorem dX7_make_0 : decode cX7_make 0 = .ok (.aload_n 0, 1) := by decide +kernel
theorem dX7_make_1 : decode cX7_make 1 = .ok (.iconst 0, 1) := by decide +kernel
theorem dX7_make_2 : decode cX7_make 2 = .ok (.putfield 71, 3) := by decide +kernel
theorem dX7_make_5 : decode cX7_make 5 = .ok (.iconst 0, 1) := by decide +kernel
theorem dX7_make_6 : decode cX7_make 6 = .ok (.istore_n 1, 1) := by decide +kernel
theorem dX7_make_7 : decode cX7_make 7 = .ok (.iconst 0, 1) := by decide +kernel
theorem dX7_make_8 : decode cX7_make 8 = .ok (.istore_n 2, 1) := by decide +kernel
theorem dX7_make_9 : decode cX7_make 9 = .ok (.iload_n 2, 1) := by decide +kernel
theorem dX7_make_10 : decode cX7_make 10 = .ok (.aload_n 0, 1) := by decide +kernel
theorem dX7_make_11 : decode cX7_make 11 = .ok (.getfield 75, 3) := by decide +kernel
theorem dX7_make_14 : decode cX7_make 14 = .ok (.if_icmp .ge 128, 3) := by decide +kernel
theorem dX7_make_17 : decode cX7_make 17 = .ok (.aload_n 0, 1) := by decide +kernel
theorem dX7_make_18 : decode cX7_make 18 = .ok (.getfield 16, 3) := by decide +kernel
theorem dX7_make_21 : decode cX7_make 21 = .ok (.iload_n 2, 1) := by decide +kernel
theorem dX7_make_22 : decode cX7_make 22 = .ok (.baload, 1) := by decide +kernel
theorem dX7_make_23 : decode cX7_make 23 = .ok (.ifCond .ne 113, 3) := by decide +kernel
theorem dX7_make_26 : decode cX7_make 26 = .ok (.aload_n 0, 1) := by decide +kernel
theorem dX7_make_27 : decode cX7_make 27 = .ok (.getfield 29, 3) := by decide +kernel
theorem dX7_make_30 : decode cX7_make 30 = .ok (.iload_n 2, 1) := by decide +kernel
theorem dX7_make_31 : decode cX7_make 31 = .ok (.iaload, 1) := by decide +kernel
theorem dX7_make_32 : decode cX7_make 32 = .ok (.iconst 3, 1) := by decide +kernel
theorem dX7_make_33 : decode cX7_make 33 = .ok (.if_icmp .ge 103, 3) := by decide +kernel
theorem dX7_make_36 : decode cX7_make 36 = .ok (.aload_n 0, 1) := by decide +kernel
theorem dX7_make_37 : decode cX7_make 37 = .ok (.aload_n 0, 1) := by decide +kernel
theorem dX7_make_38 : decode cX7_make 38 = .ok (.getfield 13, 3) := by decide +kernel
theorem dX7_make_41 : decode cX7_make 41 = .ok (.iload_n 2, 1) := by decide +kernel
theorem dX7_make_42 : decode cX7_make 42 = .ok (.iaload, 1) := by decide +kernel
theorem dX7_make_43 : decode cX7_make 43 = .ok (.invokevirtual 121, 3) := by decide +kernel
theorem dX7_make_46 : decode cX7_make 46 = .ok (.ifCond .eq 90, 3) := by decide +kernel
theorem dX7_make_49 : decode cX7_make 49 = .ok (.iconst 0, 1) := by decide +kernel
theorem dX7_make_50 : decode cX7_make 50 = .ok (.istore_n 3, 1) := by decide +kernel
theorem dX7_make_51 : decode cX7_make 51 = .ok (.iload_n 3, 1) := by decide +kernel
theorem dX7_make_52 : decode cX7_make 52 = .ok (.sipush 256, 3) := by decide +kernel
theorem dX7_make_55 : decode cX7_make 55 = .ok (.if_icmp .ge 71, 3) := by decide +kernel
theorem dX7_make_58 : decode cX7_make 58 = .ok (.aload_n 0, 1) := by decide +kernel
theorem dX7_make_59 : decode cX7_make 59 = .ok (.getfield 20, 3) := by decide +kernel
theorem dX7_make_62 : decode cX7_make 62 = .ok (.sipush 256, 3) := by decide +kernel
theorem dX7_make_65 : decode cX7_make 65 = .ok (.iload_n 2, 1) := by decide +kernel
theorem dX7_make_66 : decode cX7_make 66 = .ok (.imul, 1) := by decide +kernel
theorem dX7_make_67 : decode cX7_make 67 = .ok (.iload_n 3, 1) := by decide +kernel
theorem dX7_make_68 : decode cX7_make 68 = .ok (.iadd, 1) := by decide +kernel
theorem dX7_make_69 : decode cX7_make 69 = .ok (.aload_n 0, 1) := by decide +kernel
theorem dX7_make_70 : decode cX7_make 70 = .ok (.getfield 56, 3) := by decide +kernel
theorem dX7_make_73 : decode cX7_make 73 = .ok (.iload_n 3, 1) := by decide +kernel
theorem dX7_make_74 : decode cX7_make 74 = .ok (.baload, 1) := by decide +kernel
theorem dX7_make_75 : decode cX7_make 75 = .ok (.bastore, 1) := by decide +kernel
theorem dX7_make_76 : decode cX7_make 76 = .ok (.aload_n 0, 1) := by decide +kernel
theorem dX7_make_77 : decode cX7_make 77 = .ok (.getfield 23, 3) := by decide +kernel
theorem dX7_make_80 : decode cX7_make 80 = .ok (.sipush 256, 3) := by decide +kernel
theorem dX7_make_83 : decode cX7_make 83 = .ok (.iload_n 2, 1) := by decide +kernel
theorem dX7_make_84 : decode cX7_make 84 = .ok (.imul, 1) := by decide +kernel
theorem dX7_make_85 : decode cX7_make 85 = .ok (.iload_n 3, 1) := by decide +kernel
theorem dX7_make_86 : decode cX7_make 86 = .ok (.iadd, 1) := by decide +kernel
theorem dX7_make_87 : decode cX7_make 87 = .ok (.aload_n 0, 1) := by decide +kernel
theorem dX7_make_88 : decode cX7_make 88 = .ok (.getfield 62, 3) := by decide +kernel
theorem dX7_make_91 : decode cX7_make 91 = .ok (.iload_n 3, 1) := by decide +kernel
theorem dX7_make_92 : decode cX7_make 92 = .ok (.iaload, 1) := by decide +kernel
theorem dX7_make_93 : decode cX7_make 93 = .ok (.ifCond .le 7, 3) := by decide +kernel
theorem dX7_make_96 : decode cX7_make 96 = .ok (.iconst 1, 1) := by decide +kernel
theorem dX7_make_97 : decode cX7_make 97 = .ok (.goto 4, 3) := by decide +kernel
theorem dX7_make_100 : decode cX7_make 100 = .ok (.iconst 0, 1) := by decide +kernel
theorem dX7_make_101 : decode cX7_make 101 = .ok (.bastore, 1) := by decide +kernel
theorem dX7_make_102 : decode cX7_make 102 = .ok (.aload_n 0, 1) := by decide +kernel
theorem dX7_make_103 : decode cX7_make 103 = .ok (.getfield 26, 3) := by decide +kernel
theorem dX7_make_106 : decode cX7_make 106 = .ok (.sipush 256, 3) := by decide +kernel
theorem dX7_make_109 : decode cX7_make 109 = .ok (.iload_n 2, 1) := by decide +kernel
theorem dX7_make_110 : decode cX7_make 110 = .ok (.imul, 1) := by decide +kernel
theorem dX7_make_111 : decode cX7_make 111 = .ok (.iload_n 3, 1) := by decide +kernel
theorem dX7_make_112 : decode cX7_make 112 = .ok (.iadd, 1) := by decide +kernel
theorem dX7_make_113 : decode cX7_make 113 = .ok (.aload_n 0, 1) := by decide +kernel
theorem dX7_make_114 : decode cX7_make 114 = .ok (.getfield 7, 3) := by decide +kernel
theorem dX7_make_117 : decode cX7_make 117 = .ok (.iload_n 3, 1) := by decide +kernel
theorem dX7_make_118 : decode cX7_make 118 = .ok (.iaload, 1) := by decide +kernel
theorem dX7_make_119 : decode cX7_make 119 = .ok (.iastore, 1) := by decide +kernel
theorem dX7_make_120 : decode cX7_make 120 = .ok (.iinc 3 1, 3) := by decide +kernel
theorem dX7_make_123 : decode cX7_make 123 = .ok (.goto (-72), 3) := by decide +kernel
theorem dX7_make_126 : decode cX7_make 126 = .ok (.aload_n 0, 1) := by decide +kernel
theorem dX7_make_127 : decode cX7_make 127 = .ok (.getfield 16, 3) := by decide +kernel
theorem dX7_make_130 : decode cX7_make 130 = .ok (.iload_n 2, 1) := by decide +kernel
theorem dX7_make_131 : decode cX7_make 131 = .ok (.iconst 1, 1) := by decide +kernel
theorem dX7_make_132 : decode cX7_make 132 = .ok (.bastore, 1) := by decide +kernel
theorem dX7_make_133 : decode cX7_make 133 = .ok (.iinc 1 1, 3) := by decide +kernel
theorem dX7_make_136 : decode cX7_make 136 = .ok (.iinc 2 1, 3) := by decide +kernel
theorem dX7_make_139 : decode cX7_make 139 = .ok (.goto (-130), 3) := by decide +kernel
theorem dX7_make_142 : decode cX7_make 142 = .ok (.aload_n 0, 1) := by decide +kernel
theorem dX7_make_143 : decode cX7_make 143 = .ok (.dup, 1) := by decide +kernel
theorem dX7_make_144 : decode cX7_make 144 = .ok (.getfield 124, 3) := by decide +kernel
theorem dX7_make_147 : decode cX7_make 147 = .ok (.iload_n 1, 1) := by decide +kernel
theorem dX7_make_148 : decode cX7_make 148 = .ok (.iadd, 1) := by decide +kernel
theorem dX7_make_149 : decode cX7_make 149 = .ok (.putfield 124, 3) := by decide +kernel
theorem dX7_make_152 : decode cX7_make 152 = .ok (.iload_n 1, 1) := by decide +kernel
theorem dX7_make_153 : decode cX7_make 153 = .ok (.ireturn, 1) := by decide +kernel
theorem dX7_countOf_0 : decode cX7_countOf 0 = .ok (.iconst 0, 1) := by decide +kernel
theorem dX7_countOf_1 : decode cX7_countOf 1 = .ok (.istore_n 3, 1) := by decide +kernel
theorem dX7_countOf_2 : decode cX7_countOf 2 = .ok (.sipush 256, 3) := by decide +kernel
theorem dX7_countOf_5 : decode cX7_countOf 5 = .ok (.iload_n 1, 1) := by decide +kernel
theorem dX7_countOf_6 : decode cX7_countOf 6 = .ok (.imul, 1) := by decide +kernel
theorem dX7_countOf_7 : decode cX7_countOf 7 = .ok (.istore 4, 2) := by decide +kernel
theorem dX7_countOf_9 : decode cX7_countOf 9 = .ok (.iload 4, 2) := by decide +kernel
theorem dX7_countOf_11 : decode cX7_countOf 11 = .ok (.sipush 256, 3) := by decide +kernel
theorem dX7_countOf_14 : decode cX7_countOf 14 = .ok (.iload_n 1, 1) := by decide +kernel
theorem dX7_countOf_15 : decode cX7_countOf 15 = .ok (.imul, 1) := by decide +kernel
theorem dX7_countOf_16 : decode cX7_countOf 16 = .ok (.sipush 256, 3) := by decide +kernel
theorem dX7_countOf_19 : decode cX7_countOf 19 = .ok (.iadd, 1) := by decide +kernel
theorem dX7_countOf_20 : decode cX7_countOf 20 = .ok (.if_icmp .ge 53, 3) := by decide +kernel
theorem dX7_countOf_23 : decode cX7_countOf 23 = .ok (.aload_n 0, 1) := by decide +kernel
theorem dX7_countOf_24 : decode cX7_countOf 24 = .ok (.getfield 16, 3) := by decide +kernel
theorem dX7_countOf_27 : decode cX7_countOf 27 = .ok (.iload_n 1, 1) := by decide +kernel
theorem dX7_countOf_28 : decode cX7_countOf 28 = .ok (.baload, 1) := by decide +kernel
theorem dX7_countOf_29 : decode cX7_countOf 29 = .ok (.ifCond .eq 44, 3) := by decide +kernel
theorem dX7_countOf_32 : decode cX7_countOf 32 = .ok (.iload_n 3, 1) := by decide +kernel
theorem dX7_countOf_33 : decode cX7_countOf 33 = .ok (.iload_n 2, 1) := by decide +kernel
theorem dX7_countOf_34 : decode cX7_countOf 34 = .ok (.ifCond .eq 16, 3) := by decide +kernel
theorem dX7_countOf_37 : decode cX7_countOf 37 = .ok (.aload_n 0, 1) := by decide +kernel
theorem dX7_countOf_38 : decode cX7_countOf 38 = .ok (.getfield 20, 3) := by decide +kernel
theorem dX7_countOf_41 : decode cX7_countOf 41 = .ok (.iload 4, 2) := by decide +kernel
theorem dX7_countOf_43 : decode cX7_countOf 43 = .ok (.baload, 1) := by decide +kernel
theorem dX7_countOf_44 : decode cX7_countOf 44 = .ok (.ifCond .eq 20, 3) := by decide +kernel
theorem dX7_countOf_47 : decode cX7_countOf 47 = .ok (.goto 13, 3) := by decide +kernel
theorem dX7_countOf_50 : decode cX7_countOf 50 = .ok (.aload_n 0, 1) := by decide +kernel
theorem dX7_countOf_51 : decode cX7_countOf 51 = .ok (.getfield 23, 3) := by decide +kernel
theorem dX7_countOf_54 : decode cX7_countOf 54 = .ok (.iload 4, 2) := by decide +kernel
theorem dX7_countOf_56 : decode cX7_countOf 56 = .ok (.baload, 1) := by decide +kernel
theorem dX7_countOf_57 : decode cX7_countOf 57 = .ok (.ifCond .eq 7, 3) := by decide +kernel
theorem dX7_countOf_60 : decode cX7_countOf 60 = .ok (.iconst 1, 1) := by decide +kernel
theorem dX7_countOf_61 : decode cX7_countOf 61 = .ok (.goto 4, 3) := by decide +kernel
theorem dX7_countOf_64 : decode cX7_countOf 64 = .ok (.iconst 0, 1) := by decide +kernel
theorem dX7_countOf_65 : decode cX7_countOf 65 = .ok (.iadd, 1) := by decide +kernel
theorem dX7_countOf_66 : decode cX7_countOf 66 = .ok (.istore_n 3, 1) := by decide +kernel
theorem dX7_countOf_67 : decode cX7_countOf 67 = .ok (.iinc 4 1, 3) := by decide +kernel
theorem dX7_countOf_70 : decode cX7_countOf 70 = .ok (.goto (-61), 3) := by decide +kernel
theorem dX7_countOf_73 : decode cX7_countOf 73 = .ok (.iload_n 3, 1) := by decide +kernel
theorem dX7_countOf_74 : decode cX7_countOf 74 = .ok (.ireturn, 1) := by decide +kernel
theorem dX7_member_0 : decode cX7_member 0 = .ok (.aload_n 0, 1) := by decide +kernel
theorem dX7_member_1 : decode cX7_member 1 = .ok (.iconst 0, 1) := by decide +kernel
theorem dX7_member_2 : decode cX7_member 2 = .ok (.putfield 71, 3) := by decide +kernel
theorem dX7_member_5 : decode cX7_member 5 = .ok (.aload_n 0, 1) := by decide +kernel
theorem dX7_member_6 : decode cX7_member 6 = .ok (.iload_n 1, 1) := by decide +kernel
theorem dX7_member_7 : decode cX7_member 7 = .ok (.invokevirtual 127, 3) := by decide +kernel
theorem dX7_member_10 : decode cX7_member 10 = .ok (.ifCond .ne 5, 3) := by decide +kernel
theorem dX7_member_13 : decode cX7_member 13 = .ok (.iconst (-1), 1) := by decide +kernel
theorem dX7_member_14 : decode cX7_member 14 = .ok (.ireturn, 1) := by decide +kernel
theorem dX7_member_15 : decode cX7_member 15 = .ok (.iload_n 2, 1) := by decide +kernel
theorem dX7_member_16 : decode cX7_member 16 = .ok (.tableswitch 118 0 6 #[44, 59, 66, 73, 80, 96, 111], 44) := by decide +kernel
theorem dX7_member_60 : decode cX7_member 60 = .ok (.aload_n 0, 1) := by decide +kernel
theorem dX7_member_61 : decode cX7_member 61 = .ok (.getfield 16, 3) := by decide +kernel
theorem dX7_member_64 : decode cX7_member 64 = .ok (.iload_n 1, 1) := by decide +kernel
theorem dX7_member_65 : decode cX7_member 65 = .ok (.baload, 1) := by decide +kernel
theorem dX7_member_66 : decode cX7_member 66 = .ok (.ifCond .eq 7, 3) := by decide +kernel
theorem dX7_member_69 : decode cX7_member 69 = .ok (.iconst 1, 1) := by decide +kernel
theorem dX7_member_70 : decode cX7_member 70 = .ok (.goto 4, 3) := by decide +kernel
theorem dX7_member_73 : decode cX7_member 73 = .ok (.iconst 0, 1) := by decide +kernel
theorem dX7_member_74 : decode cX7_member 74 = .ok (.ireturn, 1) := by decide +kernel
theorem dX7_member_75 : decode cX7_member 75 = .ok (.aload_n 0, 1) := by decide +kernel
theorem dX7_member_76 : decode cX7_member 76 = .ok (.iload_n 1, 1) := by decide +kernel
theorem dX7_member_77 : decode cX7_member 77 = .ok (.iconst 1, 1) := by decide +kernel
theorem dX7_member_78 : decode cX7_member 78 = .ok (.invokevirtual 130, 3) := by decide +kernel
theorem dX7_member_81 : decode cX7_member 81 = .ok (.ireturn, 1) := by decide +kernel
theorem dX7_member_82 : decode cX7_member 82 = .ok (.aload_n 0, 1) := by decide +kernel
theorem dX7_member_83 : decode cX7_member 83 = .ok (.iload_n 1, 1) := by decide +kernel
theorem dX7_member_84 : decode cX7_member 84 = .ok (.iconst 0, 1) := by decide +kernel
theorem dX7_member_85 : decode cX7_member 85 = .ok (.invokevirtual 130, 3) := by decide +kernel
theorem dX7_member_88 : decode cX7_member 88 = .ok (.ireturn, 1) := by decide +kernel
theorem dX7_member_89 : decode cX7_member 89 = .ok (.aload_n 0, 1) := by decide +kernel
theorem dX7_member_90 : decode cX7_member 90 = .ok (.getfield 29, 3) := by decide +kernel
theorem dX7_member_93 : decode cX7_member 93 = .ok (.iload_n 1, 1) := by decide +kernel
theorem dX7_member_94 : decode cX7_member 94 = .ok (.iaload, 1) := by decide +kernel
theorem dX7_member_95 : decode cX7_member 95 = .ok (.ireturn, 1) := by decide +kernel
theorem dX7_member_96 : decode cX7_member 96 = .ok (.aload_n 0, 1) := by decide +kernel
theorem dX7_member_97 : decode cX7_member 97 = .ok (.getfield 29, 3) := by decide +kernel
theorem dX7_member_100 : decode cX7_member 100 = .ok (.iload_n 1, 1) := by decide +kernel
theorem dX7_member_101 : decode cX7_member 101 = .ok (.iaload, 1) := by decide +kernel
theorem dX7_member_102 : decode cX7_member 102 = .ok (.iconst 3, 1) := by decide +kernel
theorem dX7_member_103 : decode cX7_member 103 = .ok (.if_icmp .lt 7, 3) := by decide +kernel
theorem dX7_member_106 : decode cX7_member 106 = .ok (.iconst 1, 1) := by decide +kernel
theorem dX7_member_107 : decode cX7_member 107 = .ok (.goto 4, 3) := by decide +kernel
theorem dX7_member_110 : decode cX7_member 110 = .ok (.iconst 0, 1) := by decide +kernel
theorem dX7_member_111 : decode cX7_member 111 = .ok (.ireturn, 1) := by decide +kernel
theorem dX7_member_112 : decode cX7_member 112 = .ok (.aload_n 0, 1) := by decide +kernel
theorem dX7_member_113 : decode cX7_member 113 = .ok (.getfield 32, 3) := by decide +kernel
theorem dX7_member_116 : decode cX7_member 116 = .ok (.iload_n 1, 1) := by decide +kernel
theorem dX7_member_117 : decode cX7_member 117 = .ok (.baload, 1) := by decide +kernel
theorem dX7_member_118 : decode cX7_member 118 = .ok (.ifCond .eq 7, 3) := by decide +kernel
theorem dX7_member_121 : decode cX7_member 121 = .ok (.iconst 1, 1) := by decide +kernel
theorem dX7_member_122 : decode cX7_member 122 = .ok (.goto 4, 3) := by decide +kernel
theorem dX7_member_125 : decode cX7_member 125 = .ok (.iconst 0, 1) := by decide +kernel
theorem dX7_member_126 : decode cX7_member 126 = .ok (.ireturn, 1) := by decide +kernel
theorem dX7_member_127 : decode cX7_member 127 = .ok (.aload_n 0, 1) := by decide +kernel
theorem dX7_member_128 : decode cX7_member 128 = .ok (.getfield 13, 3) := by decide +kernel
theorem dX7_member_131 : decode cX7_member 131 = .ok (.iload_n 1, 1) := by decide +kernel
theorem dX7_member_132 : decode cX7_member 132 = .ok (.iaload, 1) := by decide +kernel
theorem dX7_member_133 : decode cX7_member 133 = .ok (.ireturn, 1) := by decide +kernel
theorem dX7_member_134 : decode cX7_member 134 = .ok (.bipush (-2), 2) := by decide +kernel
theorem dX7_member_136 : decode cX7_member 136 = .ok (.ireturn, 1) := by decide +kernel
theorem dX7_head_0 : decode cX7_head 0 = .ok (.aload_n 0, 1) := by decide +kernel
theorem dX7_head_1 : decode cX7_head 1 = .ok (.iconst 0, 1) := by decide +kernel
theorem dX7_head_2 : decode cX7_head 2 = .ok (.putfield 71, 3) := by decide +kernel
theorem dX7_head_5 : decode cX7_head 5 = .ok (.aload_n 0, 1) := by decide +kernel
theorem dX7_head_6 : decode cX7_head 6 = .ok (.iload_n 1, 1) := by decide +kernel
theorem dX7_head_7 : decode cX7_head 7 = .ok (.invokevirtual 127, 3) := by decide +kernel
theorem dX7_head_10 : decode cX7_head 10 = .ok (.ifCond .ne 5, 3) := by decide +kernel
theorem dX7_head_13 : decode cX7_head 13 = .ok (.iconst (-1), 1) := by decide +kernel
theorem dX7_head_14 : decode cX7_head 14 = .ok (.ireturn, 1) := by decide +kernel
theorem dX7_head_15 : decode cX7_head 15 = .ok (.aload_n 0, 1) := by decide +kernel
theorem dX7_head_16 : decode cX7_head 16 = .ok (.getfield 16, 3) := by decide +kernel
theorem dX7_head_19 : decode cX7_head 19 = .ok (.iload_n 1, 1) := by decide +kernel
theorem dX7_head_20 : decode cX7_head 20 = .ok (.baload, 1) := by decide +kernel
theorem dX7_head_21 : decode cX7_head 21 = .ok (.ifCond .ne 10, 3) := by decide +kernel
theorem dX7_head_24 : decode cX7_head 24 = .ok (.aload_n 0, 1) := by decide +kernel
theorem dX7_head_25 : decode cX7_head 25 = .ok (.iconst 1, 1) := by decide +kernel
theorem dX7_head_26 : decode cX7_head 26 = .ok (.putfield 71, 3) := by decide +kernel
theorem dX7_head_29 : decode cX7_head 29 = .ok (.iconst 0, 1) := by decide +kernel
theorem dX7_head_30 : decode cX7_head 30 = .ok (.ireturn, 1) := by decide +kernel
theorem dX7_head_31 : decode cX7_head 31 = .ok (.iload_n 2, 1) := by decide +kernel
theorem dX7_head_32 : decode cX7_head 32 = .ok (.iconst 0, 1) := by decide +kernel
theorem dX7_head_33 : decode cX7_head 33 = .ok (.aload_n 0, 1) := by decide +kernel
theorem dX7_head_34 : decode cX7_head 34 = .ok (.iload_n 1, 1) := by decide +kernel
theorem dX7_head_35 : decode cX7_head 35 = .ok (.iconst 1, 1) := by decide +kernel
theorem dX7_head_36 : decode cX7_head 36 = .ok (.invokevirtual 130, 3) := by decide +kernel
theorem dX7_head_39 : decode cX7_head 39 = .ok (.iconst 1, 1) := by decide +kernel
theorem dX7_head_40 : decode cX7_head 40 = .ok (.isub, 1) := by decide +kernel
theorem dX7_head_41 : decode cX7_head 41 = .ok (.invokestatic 78, 3) := by decide +kernel
theorem dX7_head_44 : decode cX7_head 44 = .ok (.ifCond .ne 10, 3) := by decide +kernel
theorem dX7_head_47 : decode cX7_head 47 = .ok (.aload_n 0, 1) := by decide +kernel
theorem dX7_head_48 : decode cX7_head 48 = .ok (.iconst 2, 1) := by decide +kernel
theorem dX7_head_49 : decode cX7_head 49 = .ok (.putfield 71, 3) := by decide +kernel
theorem dX7_head_52 : decode cX7_head 52 = .ok (.iconst 0, 1) := by decide +kernel
theorem dX7_head_53 : decode cX7_head 53 = .ok (.ireturn, 1) := by decide +kernel
theorem dX7_head_54 : decode cX7_head 54 = .ok (.iload_n 2, 1) := by decide +kernel
theorem dX7_head_55 : decode cX7_head 55 = .ok (.istore_n 3, 1) := by decide +kernel
theorem dX7_head_56 : decode cX7_head 56 = .ok (.iconst 0, 1) := by decide +kernel
theorem dX7_head_57 : decode cX7_head 57 = .ok (.istore 4, 2) := by decide +kernel
theorem dX7_head_59 : decode cX7_head 59 = .ok (.aload_n 0, 1) := by decide +kernel
theorem dX7_head_60 : decode cX7_head 60 = .ok (.getfield 20, 3) := by decide +kernel
theorem dX7_head_63 : decode cX7_head 63 = .ok (.sipush 256, 3) := by decide +kernel
theorem dX7_head_66 : decode cX7_head 66 = .ok (.iload_n 1, 1) := by decide +kernel
theorem dX7_head_67 : decode cX7_head 67 = .ok (.imul, 1) := by decide +kernel
theorem dX7_head_68 : decode cX7_head 68 = .ok (.iload 4, 2) := by decide +kernel
theorem dX7_head_70 : decode cX7_head 70 = .ok (.iadd, 1) := by decide +kernel
theorem dX7_head_71 : decode cX7_head 71 = .ok (.baload, 1) := by decide +kernel
theorem dX7_head_72 : decode cX7_head 72 = .ok (.ifCond .eq 7, 3) := by decide +kernel
theorem dX7_head_75 : decode cX7_head 75 = .ok (.iload_n 3, 1) := by decide +kernel
theorem dX7_head_76 : decode cX7_head 76 = .ok (.ifCond .le 33, 3) := by decide +kernel
theorem dX7_head_79 : decode cX7_head 79 = .ok (.iload_n 3, 1) := by decide +kernel
theorem dX7_head_80 : decode cX7_head 80 = .ok (.aload_n 0, 1) := by decide +kernel
theorem dX7_head_81 : decode cX7_head 81 = .ok (.getfield 20, 3) := by decide +kernel
theorem dX7_head_84 : decode cX7_head 84 = .ok (.sipush 256, 3) := by decide +kernel
theorem dX7_head_87 : decode cX7_head 87 = .ok (.iload_n 1, 1) := by decide +kernel
theorem dX7_head_88 : decode cX7_head 88 = .ok (.imul, 1) := by decide +kernel
theorem dX7_head_89 : decode cX7_head 89 = .ok (.iload 4, 2) := by decide +kernel
theorem dX7_head_91 : decode cX7_head 91 = .ok (.iadd, 1) := by decide +kernel
theorem dX7_head_92 : decode cX7_head 92 = .ok (.baload, 1) := by decide +kernel
theorem dX7_head_93 : decode cX7_head 93 = .ok (.ifCond .eq 7, 3) := by decide +kernel
theorem dX7_head_96 : decode cX7_head 96 = .ok (.iconst 1, 1) := by decide +kernel
theorem dX7_head_97 : decode cX7_head 97 = .ok (.goto 4, 3) := by decide +kernel
theorem dX7_head_100 : decode cX7_head 100 = .ok (.iconst 0, 1) := by decide +kernel
theorem dX7_head_101 : decode cX7_head 101 = .ok (.isub, 1) := by decide +kernel
theorem dX7_head_102 : decode cX7_head 102 = .ok (.istore_n 3, 1) := by decide +kernel
theorem dX7_head_103 : decode cX7_head 103 = .ok (.iinc 4 1, 3) := by decide +kernel
theorem dX7_head_106 : decode cX7_head 106 = .ok (.goto (-47), 3) := by decide +kernel
theorem dX7_head_109 : decode cX7_head 109 = .ok (.iload 4, 2) := by decide +kernel
theorem dX7_head_111 : decode cX7_head 111 = .ok (.ireturn, 1) := by decide +kernel
theorem dX7_makeable_0 : decode cX7_makeable 0 = .ok (.aload_n 0, 1) := by decide +kernel
theorem dX7_makeable_1 : decode cX7_makeable 1 = .ok (.iconst 0, 1) := by decide +kernel
theorem dX7_makeable_2 : decode cX7_makeable 2 = .ok (.putfield 71, 3) := by decide +kernel
theorem dX7_makeable_5 : decode cX7_makeable 5 = .ok (.aload_n 0, 1) := by decide +kernel
theorem dX7_makeable_6 : decode cX7_makeable 6 = .ok (.iload_n 1, 1) := by decide +kernel
theorem dX7_makeable_7 : decode cX7_makeable 7 = .ok (.invokevirtual 127, 3) := by decide +kernel
theorem dX7_makeable_10 : decode cX7_makeable 10 = .ok (.ifCond .ne 7, 3) := by decide +kernel
theorem dX7_makeable_13 : decode cX7_makeable 13 = .ok (.iconst (-1), 1) := by decide +kernel
theorem dX7_makeable_14 : decode cX7_makeable 14 = .ok (.goto 21, 3) := by decide +kernel
theorem dX7_makeable_17 : decode cX7_makeable 17 = .ok (.aload_n 0, 1) := by decide +kernel
theorem dX7_makeable_18 : decode cX7_makeable 18 = .ok (.aload_n 0, 1) := by decide +kernel
theorem dX7_makeable_19 : decode cX7_makeable 19 = .ok (.getfield 13, 3) := by decide +kernel
theorem dX7_makeable_22 : decode cX7_makeable 22 = .ok (.iload_n 1, 1) := by decide +kernel
theorem dX7_makeable_23 : decode cX7_makeable 23 = .ok (.iaload, 1) := by decide +kernel
theorem dX7_makeable_24 : decode cX7_makeable 24 = .ok (.invokevirtual 121, 3) := by decide +kernel
theorem dX7_makeable_27 : decode cX7_makeable 27 = .ok (.ifCond .eq 7, 3) := by decide +kernel
theorem dX7_makeable_30 : decode cX7_makeable 30 = .ok (.iconst 1, 1) := by decide +kernel
theorem dX7_makeable_31 : decode cX7_makeable 31 = .ok (.goto 4, 3) := by decide +kernel
theorem dX7_makeable_34 : decode cX7_makeable 34 = .ok (.iconst 0, 1) := by decide +kernel
theorem dX7_makeable_35 : decode cX7_makeable 35 = .ok (.ireturn, 1) := by decide +kernel
theorem dX7_changes_0 : decode cX7_changes 0 = .ok (.aload_n 0, 1) := by decide +kernel
theorem dX7_changes_1 : decode cX7_changes 1 = .ok (.iload_n 1, 1) := by decide +kernel
theorem dX7_changes_2 : decode cX7_changes 2 = .ok (.iload_n 2, 1) := by decide +kernel
theorem dX7_changes_3 : decode cX7_changes 3 = .ok (.sipush 255, 3) := by decide +kernel
theorem dX7_changes_6 : decode cX7_changes 6 = .ok (.iand, 1) := by decide +kernel
theorem dX7_changes_7 : decode cX7_changes 7 = .ok (.invokevirtual 104, 3) := by decide +kernel
theorem dX7_changes_10 : decode cX7_changes 10 = .ok (.istore_n 3, 1) := by decide +kernel
theorem dX7_changes_11 : decode cX7_changes 11 = .ok (.aload_n 0, 1) := by decide +kernel
theorem dX7_changes_12 : decode cX7_changes 12 = .ok (.dup, 1) := by decide +kernel
theorem dX7_changes_13 : decode cX7_changes 13 = .ok (.getfield 134, 3) := by decide +kernel
theorem dX7_changes_16 : decode cX7_changes 16 = .ok (.iload_n 3, 1) := by decide +kernel
theorem dX7_changes_17 : decode cX7_changes 17 = .ok (.ifCond .lt 7, 3) := by decide +kernel
theorem dX7_changes_20 : decode cX7_changes 20 = .ok (.iconst 1, 1) := by decide +kernel
theorem dX7_changes_21 : decode cX7_changes 21 = .ok (.goto 4, 3) := by decide +kernel
theorem dX7_changes_24 : decode cX7_changes 24 = .ok (.iconst 0, 1) := by decide +kernel
theorem dX7_changes_25 : decode cX7_changes 25 = .ok (.iadd, 1) := by decide +kernel
theorem dX7_changes_26 : decode cX7_changes 26 = .ok (.putfield 134, 3) := by decide +kernel
theorem dX7_changes_29 : decode cX7_changes 29 = .ok (.aload_n 0, 1) := by decide +kernel
theorem dX7_changes_30 : decode cX7_changes 30 = .ok (.dup, 1) := by decide +kernel
theorem dX7_changes_31 : decode cX7_changes 31 = .ok (.getfield 137, 3) := by decide +kernel
theorem dX7_changes_34 : decode cX7_changes 34 = .ok (.iload_n 3, 1) := by decide +kernel
theorem dX7_changes_35 : decode cX7_changes 35 = .ok (.ifCond .le 7, 3) := by decide +kernel
theorem dX7_changes_38 : decode cX7_changes 38 = .ok (.iload_n 3, 1) := by decide +kernel
theorem dX7_changes_39 : decode cX7_changes 39 = .ok (.goto 4, 3) := by decide +kernel
theorem dX7_changes_42 : decode cX7_changes 42 = .ok (.iconst 0, 1) := by decide +kernel
theorem dX7_changes_43 : decode cX7_changes 43 = .ok (.iadd, 1) := by decide +kernel
theorem dX7_changes_44 : decode cX7_changes 44 = .ok (.putfield 137, 3) := by decide +kernel
theorem dX7_changes_47 : decode cX7_changes 47 = .ok (.return_, 1) := by decide +kernel
theorem dX7_works_0 : decode cX7_works 0 = .ok (.aload_n 0, 1) := by decide +kernel
theorem dX7_works_1 : decode cX7_works 1 = .ok (.getfield 140, 3) := by decide +kernel
theorem dX7_works_4 : decode cX7_works 4 = .ok (.istore_n 3, 1) := by decide +kernel
theorem dX7_works_5 : decode cX7_works 5 = .ok (.iload_n 1, 1) := by decide +kernel
theorem dX7_works_6 : decode cX7_works 6 = .ok (.tableswitch 194 1 12 #[62, 71, 85, 101, 114, 194, 194, 126, 194, 139, 159, 178], 62) := by decide +kernel
theorem dX7_works_68 : decode cX7_works 68 = .ok (.aload_n 0, 1) := by decide +kernel
theorem dX7_works_69 : decode cX7_works 69 = .ok (.iload_n 2, 1) := by decide +kernel
theorem dX7_works_70 : decode cX7_works 70 = .ok (.i2b, 1) := by decide +kernel
theorem dX7_works_71 : decode cX7_works 71 = .ok (.putfield 140, 3) := by decide +kernel
theorem dX7_works_74 : decode cX7_works 74 = .ok (.goto 126, 3) := by decide +kernel
theorem dX7_works_77 : decode cX7_works 77 = .ok (.aload_n 0, 1) := by decide +kernel
theorem dX7_works_78 : decode cX7_works 78 = .ok (.dup, 1) := by decide +kernel
theorem dX7_works_79 : decode cX7_works 79 = .ok (.getfield 140, 3) := by decide +kernel
theorem dX7_works_82 : decode cX7_works 82 = .ok (.iload_n 2, 1) := by decide +kernel
theorem dX7_works_83 : decode cX7_works 83 = .ok (.i2b, 1) := by decide +kernel
theorem dX7_works_84 : decode cX7_works 84 = .ok (.iadd, 1) := by decide +kernel
theorem dX7_works_85 : decode cX7_works 85 = .ok (.putfield 140, 3) := by decide +kernel
theorem dX7_works_88 : decode cX7_works 88 = .ok (.goto 112, 3) := by decide +kernel
theorem dX7_works_91 : decode cX7_works 91 = .ok (.aload_n 0, 1) := by decide +kernel
theorem dX7_works_92 : decode cX7_works 92 = .ok (.aload_n 0, 1) := by decide +kernel
theorem dX7_works_93 : decode cX7_works 93 = .ok (.getfield 143, 3) := by decide +kernel
theorem dX7_works_96 : decode cX7_works 96 = .ok (.putfield 140, 3) := by decide +kernel
theorem dX7_works_99 : decode cX7_works 99 = .ok (.aload_n 0, 1) := by decide +kernel
theorem dX7_works_100 : decode cX7_works 100 = .ok (.iload_n 3, 1) := by decide +kernel
theorem dX7_works_101 : decode cX7_works 101 = .ok (.putfield 143, 3) := by decide +kernel
theorem dX7_works_104 : decode cX7_works 104 = .ok (.goto 96, 3) := by decide +kernel
theorem dX7_works_107 : decode cX7_works 107 = .ok (.aload_n 0, 1) := by decide +kernel
theorem dX7_works_108 : decode cX7_works 108 = .ok (.aload_n 0, 1) := by decide +kernel
theorem dX7_works_109 : decode cX7_works 109 = .ok (.getfield 7, 3) := by decide +kernel
theorem dX7_works_112 : decode cX7_works 112 = .ok (.iload_n 2, 1) := by decide +kernel
theorem dX7_works_113 : decode cX7_works 113 = .ok (.iaload, 1) := by decide +kernel
theorem dX7_works_114 : decode cX7_works 114 = .ok (.putfield 140, 3) := by decide +kernel
theorem dX7_works_117 : decode cX7_works 117 = .ok (.goto 83, 3) := by decide +kernel
theorem dX7_works_120 : decode cX7_works 120 = .ok (.aload_n 0, 1) := by decide +kernel
theorem dX7_works_121 : decode cX7_works 121 = .ok (.iload_n 2, 1) := by decide +kernel
theorem dX7_works_122 : decode cX7_works 122 = .ok (.aload_n 0, 1) := by decide +kernel
theorem dX7_works_123 : decode cX7_works 123 = .ok (.getfield 140, 3) := by decide +kernel
theorem dX7_works_126 : decode cX7_works 126 = .ok (.invokevirtual 146, 3) := by decide +kernel
theorem dX7_works_129 : decode cX7_works 129 = .ok (.goto 71, 3) := by decide +kernel
theorem dX7_works_132 : decode cX7_works 132 = .ok (.aload_n 0, 1) := by decide +kernel
theorem dX7_works_133 : decode cX7_works 133 = .ok (.dup, 1) := by decide +kernel
theorem dX7_works_134 : decode cX7_works 134 = .ok (.getfield 143, 3) := by decide +kernel
theorem dX7_works_137 : decode cX7_works 137 = .ok (.iconst 1, 1) := by decide +kernel
theorem dX7_works_138 : decode cX7_works 138 = .ok (.isub, 1) := by decide +kernel
theorem dX7_works_139 : decode cX7_works 139 = .ok (.putfield 143, 3) := by decide +kernel
theorem dX7_works_142 : decode cX7_works 142 = .ok (.goto 58, 3) := by decide +kernel
theorem dX7_works_145 : decode cX7_works 145 = .ok (.aload_n 0, 1) := by decide +kernel
theorem dX7_works_146 : decode cX7_works 146 = .ok (.aload_n 0, 1) := by decide +kernel
theorem dX7_works_147 : decode cX7_works 147 = .ok (.getfield 7, 3) := by decide +kernel
theorem dX7_works_150 : decode cX7_works 150 = .ok (.aload_n 0, 1) := by decide +kernel
theorem dX7_works_151 : decode cX7_works 151 = .ok (.getfield 143, 3) := by decide +kernel
theorem dX7_works_154 : decode cX7_works 154 = .ok (.sipush 255, 3) := by decide +kernel
theorem dX7_works_157 : decode cX7_works 157 = .ok (.iand, 1) := by decide +kernel
theorem dX7_works_158 : decode cX7_works 158 = .ok (.iaload, 1) := by decide +kernel
theorem dX7_works_159 : decode cX7_works 159 = .ok (.putfield 140, 3) := by decide +kernel
theorem dX7_works_162 : decode cX7_works 162 = .ok (.goto 38, 3) := by decide +kernel
theorem dX7_works_165 : decode cX7_works 165 = .ok (.aload_n 0, 1) := by decide +kernel
theorem dX7_works_166 : decode cX7_works 166 = .ok (.aload_n 0, 1) := by decide +kernel
theorem dX7_works_167 : decode cX7_works 167 = .ok (.getfield 143, 3) := by decide +kernel
theorem dX7_works_170 : decode cX7_works 170 = .ok (.sipush 255, 3) := by decide +kernel
theorem dX7_works_173 : decode cX7_works 173 = .ok (.iand, 1) := by decide +kernel
theorem dX7_works_174 : decode cX7_works 174 = .ok (.aload_n 0, 1) := by decide +kernel
theorem dX7_works_175 : decode cX7_works 175 = .ok (.getfield 140, 3) := by decide +kernel
theorem dX7_works_178 : decode cX7_works 178 = .ok (.invokevirtual 146, 3) := by decide +kernel
theorem dX7_works_181 : decode cX7_works 181 = .ok (.goto 19, 3) := by decide +kernel
theorem dX7_works_184 : decode cX7_works 184 = .ok (.aload_n 0, 1) := by decide +kernel
theorem dX7_works_185 : decode cX7_works 185 = .ok (.aload_n 0, 1) := by decide +kernel
theorem dX7_works_186 : decode cX7_works 186 = .ok (.getfield 140, 3) := by decide +kernel
theorem dX7_works_189 : decode cX7_works 189 = .ok (.aload_n 0, 1) := by decide +kernel
theorem dX7_works_190 : decode cX7_works 190 = .ok (.getfield 143, 3) := by decide +kernel
theorem dX7_works_193 : decode cX7_works 193 = .ok (.imul, 1) := by decide +kernel
theorem dX7_works_194 : decode cX7_works 194 = .ok (.putfield 140, 3) := by decide +kernel
theorem dX7_works_197 : decode cX7_works 197 = .ok (.goto 3, 3) := by decide +kernel
theorem dX7_works_200 : decode cX7_works 200 = .ok (.return_, 1) := by decide +kernel
theorem dX7_calls_0 : decode cX7_calls 0 = .ok (.aload_n 0, 1) := by decide +kernel
theorem dX7_calls_1 : decode cX7_calls 1 = .ok (.getfield 150, 3) := by decide +kernel
theorem dX7_calls_4 : decode cX7_calls 4 = .ok (.bipush 6, 2) := by decide +kernel
theorem dX7_calls_6 : decode cX7_calls 6 = .ok (.if_icmp .eq 11, 3) := by decide +kernel
theorem dX7_calls_9 : decode cX7_calls 9 = .ok (.iload_n 1, 1) := by decide +kernel
theorem dX7_calls_10 : decode cX7_calls 10 = .ok (.aload_n 0, 1) := by decide +kernel
theorem dX7_calls_11 : decode cX7_calls 11 = .ok (.getfield 75, 3) := by decide +kernel
theorem dX7_calls_14 : decode cX7_calls 14 = .ok (.if_icmp .lt 18, 3) := by decide +kernel
theorem dX7_calls_17 : decode cX7_calls 17 = .ok (.aload_n 0, 1) := by decide +kernel
theorem dX7_calls_18 : decode cX7_calls 18 = .ok (.getfield 150, 3) := by decide +kernel
theorem dX7_calls_21 : decode cX7_calls 21 = .ok (.bipush 6, 2) := by decide +kernel
theorem dX7_calls_23 : decode cX7_calls 23 = .ok (.if_icmp .ne 7, 3) := by decide +kernel
theorem dX7_calls_26 : decode cX7_calls 26 = .ok (.iconst 3, 1) := by decide +kernel
theorem dX7_calls_27 : decode cX7_calls 27 = .ok (.goto 4, 3) := by decide +kernel
theorem dX7_calls_30 : decode cX7_calls 30 = .ok (.iconst 2, 1) := by decide +kernel
theorem dX7_calls_31 : decode cX7_calls 31 = .ok (.ireturn, 1) := by decide +kernel
theorem dX7_calls_32 : decode cX7_calls 32 = .ok (.aload_n 0, 1) := by decide +kernel
theorem dX7_calls_33 : decode cX7_calls 33 = .ok (.getfield 68, 3) := by decide +kernel
theorem dX7_calls_36 : decode cX7_calls 36 = .ok (.aload_n 0, 1) := by decide +kernel
theorem dX7_calls_37 : decode cX7_calls 37 = .ok (.getfield 150, 3) := by decide +kernel
theorem dX7_calls_40 : decode cX7_calls 40 = .ok (.iload_n 2, 1) := by decide +kernel
theorem dX7_calls_41 : decode cX7_calls 41 = .ok (.iastore, 1) := by decide +kernel
theorem dX7_calls_42 : decode cX7_calls 42 = .ok (.aload_n 0, 1) := by decide +kernel
theorem dX7_calls_43 : decode cX7_calls 43 = .ok (.getfield 65, 3) := by decide +kernel
theorem dX7_calls_46 : decode cX7_calls 46 = .ok (.aload_n 0, 1) := by decide +kernel
theorem dX7_calls_47 : decode cX7_calls 47 = .ok (.getfield 150, 3) := by decide +kernel
theorem dX7_calls_50 : decode cX7_calls 50 = .ok (.aload_n 0, 1) := by decide +kernel
theorem dX7_calls_51 : decode cX7_calls 51 = .ok (.getfield 153, 3) := by decide +kernel
theorem dX7_calls_54 : decode cX7_calls 54 = .ok (.iastore, 1) := by decide +kernel
theorem dX7_calls_55 : decode cX7_calls 55 = .ok (.aload_n 0, 1) := by decide +kernel
theorem dX7_calls_56 : decode cX7_calls 56 = .ok (.dup, 1) := by decide +kernel
theorem dX7_calls_57 : decode cX7_calls 57 = .ok (.getfield 150, 3) := by decide +kernel
theorem dX7_calls_60 : decode cX7_calls 60 = .ok (.iconst 1, 1) := by decide +kernel
theorem dX7_calls_61 : decode cX7_calls 61 = .ok (.iadd, 1) := by decide +kernel
theorem dX7_calls_62 : decode cX7_calls 62 = .ok (.putfield 150, 3) := by decide +kernel
theorem dX7_calls_65 : decode cX7_calls 65 = .ok (.aload_n 0, 1) := by decide +kernel
theorem dX7_calls_66 : decode cX7_calls 66 = .ok (.aload_n 0, 1) := by decide +kernel
theorem dX7_calls_67 : decode cX7_calls 67 = .ok (.getfield 150, 3) := by decide +kernel
theorem dX7_calls_70 : decode cX7_calls 70 = .ok (.aload_n 0, 1) := by decide +kernel
theorem dX7_calls_71 : decode cX7_calls 71 = .ok (.getfield 156, 3) := by decide +kernel
theorem dX7_calls_74 : decode cX7_calls 74 = .ok (.if_icmp .le 10, 3) := by decide +kernel
theorem dX7_calls_77 : decode cX7_calls 77 = .ok (.aload_n 0, 1) := by decide +kernel
theorem dX7_calls_78 : decode cX7_calls 78 = .ok (.getfield 150, 3) := by decide +kernel
theorem dX7_calls_81 : decode cX7_calls 81 = .ok (.goto 7, 3) := by decide +kernel
theorem dX7_calls_84 : decode cX7_calls 84 = .ok (.aload_n 0, 1) := by decide +kernel
theorem dX7_calls_85 : decode cX7_calls 85 = .ok (.getfield 156, 3) := by decide +kernel
theorem dX7_calls_88 : decode cX7_calls 88 = .ok (.putfield 156, 3) := by decide +kernel
theorem dX7_calls_91 : decode cX7_calls 91 = .ok (.aload_n 0, 1) := by decide +kernel
theorem dX7_calls_92 : decode cX7_calls 92 = .ok (.iload_n 1, 1) := by decide +kernel
theorem dX7_calls_93 : decode cX7_calls 93 = .ok (.putfield 153, 3) := by decide +kernel
theorem dX7_calls_96 : decode cX7_calls 96 = .ok (.aload_n 0, 1) := by decide +kernel
theorem dX7_calls_97 : decode cX7_calls 97 = .ok (.aload_n 0, 1) := by decide +kernel
theorem dX7_calls_98 : decode cX7_calls 98 = .ok (.getfield 13, 3) := by decide +kernel
theorem dX7_calls_101 : decode cX7_calls 101 = .ok (.iload_n 1, 1) := by decide +kernel
theorem dX7_calls_102 : decode cX7_calls 102 = .ok (.iaload, 1) := by decide +kernel
theorem dX7_calls_103 : decode cX7_calls 103 = .ok (.putfield 159, 3) := by decide +kernel
theorem dX7_calls_106 : decode cX7_calls 106 = .ok (.iconst 0, 1) := by decide +kernel
theorem dX7_calls_107 : decode cX7_calls 107 = .ok (.ireturn, 1) := by decide +kernel
theorem dX7_act_0 : decode cX7_act 0 = .ok (.aload_n 0, 1) := by decide +kernel
theorem dX7_act_1 : decode cX7_act 1 = .ok (.getfield 162, 3) := by decide +kernel
theorem dX7_act_4 : decode cX7_act 4 = .ok (.iload_n 1, 1) := by decide +kernel
theorem dX7_act_5 : decode cX7_act 5 = .ok (.if_icmp .ne 5, 3) := by decide +kernel
theorem dX7_act_8 : decode cX7_act 8 = .ok (.iconst 4, 1) := by decide +kernel
theorem dX7_act_9 : decode cX7_act 9 = .ok (.ireturn, 1) := by decide +kernel
theorem dX7_act_10 : decode cX7_act 10 = .ok (.aload_n 0, 1) := by decide +kernel
theorem dX7_act_11 : decode cX7_act 11 = .ok (.getfield 7, 3) := by decide +kernel
theorem dX7_act_14 : decode cX7_act 14 = .ok (.aload_n 0, 1) := by decide +kernel
theorem dX7_act_15 : decode cX7_act 15 = .ok (.getfield 159, 3) := by decide +kernel
theorem dX7_act_18 : decode cX7_act 18 = .ok (.iaload, 1) := by decide +kernel
theorem dX7_act_19 : decode cX7_act 19 = .ok (.istore_n 2, 1) := by decide +kernel
theorem dX7_act_20 : decode cX7_act 20 = .ok (.iload_n 2, 1) := by decide +kernel
theorem dX7_act_21 : decode cX7_act 21 = .ok (.bipush 12, 2) := by decide +kernel
theorem dX7_act_23 : decode cX7_act 23 = .ok (.if_icmp .le 5, 3) := by decide +kernel
theorem dX7_act_26 : decode cX7_act 26 = .ok (.iconst 1, 1) := by decide +kernel
theorem dX7_act_27 : decode cX7_act 27 = .ok (.ireturn, 1) := by decide +kernel
theorem dX7_act_28 : decode cX7_act 28 = .ok (.aload_n 0, 1) := by decide +kernel
theorem dX7_act_29 : decode cX7_act 29 = .ok (.dup, 1) := by decide +kernel
theorem dX7_act_30 : decode cX7_act 30 = .ok (.getfield 162, 3) := by decide +kernel
theorem dX7_act_33 : decode cX7_act 33 = .ok (.iconst 1, 1) := by decide +kernel
theorem dX7_act_34 : decode cX7_act 34 = .ok (.iadd, 1) := by decide +kernel
theorem dX7_act_35 : decode cX7_act 35 = .ok (.putfield 162, 3) := by decide +kernel
theorem dX7_act_38 : decode cX7_act 38 = .ok (.aload_n 0, 1) := by decide +kernel
theorem dX7_act_39 : decode cX7_act 39 = .ok (.dup, 1) := by decide +kernel
theorem dX7_act_40 : decode cX7_act 40 = .ok (.getfield 165, 3) := by decide +kernel
theorem dX7_act_43 : decode cX7_act 43 = .ok (.aload_n 0, 1) := by decide +kernel
theorem dX7_act_44 : decode cX7_act 44 = .ok (.getfield 16, 3) := by decide +kernel
theorem dX7_act_47 : decode cX7_act 47 = .ok (.aload_n 0, 1) := by decide +kernel
theorem dX7_act_48 : decode cX7_act 48 = .ok (.getfield 153, 3) := by decide +kernel
theorem dX7_act_51 : decode cX7_act 51 = .ok (.baload, 1) := by decide +kernel
theorem dX7_act_52 : decode cX7_act 52 = .ok (.ifCond .eq 28, 3) := by decide +kernel
theorem dX7_act_55 : decode cX7_act 55 = .ok (.aload_n 0, 1) := by decide +kernel
theorem dX7_act_56 : decode cX7_act 56 = .ok (.getfield 20, 3) := by decide +kernel
theorem dX7_act_59 : decode cX7_act 59 = .ok (.sipush 256, 3) := by decide +kernel
theorem dX7_act_62 : decode cX7_act 62 = .ok (.aload_n 0, 1) := by decide +kernel
theorem dX7_act_63 : decode cX7_act 63 = .ok (.getfield 153, 3) := by decide +kernel
theorem dX7_act_66 : decode cX7_act 66 = .ok (.imul, 1) := by decide +kernel
theorem dX7_act_67 : decode cX7_act 67 = .ok (.aload_n 0, 1) := by decide +kernel
theorem dX7_act_68 : decode cX7_act 68 = .ok (.getfield 159, 3) := by decide +kernel
theorem dX7_act_71 : decode cX7_act 71 = .ok (.iadd, 1) := by decide +kernel
theorem dX7_act_72 : decode cX7_act 72 = .ok (.baload, 1) := by decide +kernel
theorem dX7_act_73 : decode cX7_act 73 = .ok (.ifCond .eq 7, 3) := by decide +kernel
theorem dX7_act_76 : decode cX7_act 76 = .ok (.iconst 1, 1) := by decide +kernel
theorem dX7_act_77 : decode cX7_act 77 = .ok (.goto 4, 3) := by decide +kernel
theorem dX7_act_80 : decode cX7_act 80 = .ok (.iconst 0, 1) := by decide +kernel
theorem dX7_act_81 : decode cX7_act 81 = .ok (.iadd, 1) := by decide +kernel
theorem dX7_act_82 : decode cX7_act 82 = .ok (.putfield 165, 3) := by decide +kernel
theorem dX7_act_85 : decode cX7_act 85 = .ok (.aload_n 0, 1) := by decide +kernel
theorem dX7_act_86 : decode cX7_act 86 = .ok (.getfield 7, 3) := by decide +kernel
theorem dX7_act_89 : decode cX7_act 89 = .ok (.aload_n 0, 1) := by decide +kernel
theorem dX7_act_90 : decode cX7_act 90 = .ok (.getfield 159, 3) := by decide +kernel
theorem dX7_act_93 : decode cX7_act 93 = .ok (.iconst 1, 1) := by decide +kernel
theorem dX7_act_94 : decode cX7_act 94 = .ok (.iadd, 1) := by decide +kernel
theorem dX7_act_95 : decode cX7_act 95 = .ok (.sipush 255, 3) := by decide +kernel
theorem dX7_act_98 : decode cX7_act 98 = .ok (.iand, 1) := by decide +kernel
theorem dX7_act_99 : decode cX7_act 99 = .ok (.iaload, 1) := by decide +kernel
theorem dX7_act_100 : decode cX7_act 100 = .ok (.istore_n 3, 1) := by decide +kernel
theorem dX7_act_101 : decode cX7_act 101 = .ok (.aload_n 0, 1) := by decide +kernel
theorem dX7_act_102 : decode cX7_act 102 = .ok (.aload_n 0, 1) := by decide +kernel
theorem dX7_act_103 : decode cX7_act 103 = .ok (.getfield 159, 3) := by decide +kernel
theorem dX7_act_106 : decode cX7_act 106 = .ok (.invokevirtual 114, 3) := by decide +kernel
theorem dX7_act_109 : decode cX7_act 109 = .ok (.istore 4, 2) := by decide +kernel
theorem dX7_act_111 : decode cX7_act 111 = .ok (.aload_n 0, 1) := by decide +kernel
theorem dX7_act_112 : decode cX7_act 112 = .ok (.aload_n 0, 1) := by decide +kernel
theorem dX7_act_113 : decode cX7_act 113 = .ok (.getfield 159, 3) := by decide +kernel
theorem dX7_act_116 : decode cX7_act 116 = .ok (.invokevirtual 118, 3) := by decide +kernel
theorem dX7_act_119 : decode cX7_act 119 = .ok (.istore 5, 2) := by decide +kernel
theorem dX7_act_121 : decode cX7_act 121 = .ok (.iload_n 2, 1) := by decide +kernel
theorem dX7_act_122 : decode cX7_act 122 = .ok (.bipush 9, 2) := by decide +kernel
theorem dX7_act_124 : decode cX7_act 124 = .ok (.if_icmp .ne 11, 3) := by decide +kernel
theorem dX7_act_127 : decode cX7_act 127 = .ok (.aload_n 0, 1) := by decide +kernel
theorem dX7_act_128 : decode cX7_act 128 = .ok (.iload_n 3, 1) := by decide +kernel
theorem dX7_act_129 : decode cX7_act 129 = .ok (.iload 4, 2) := by decide +kernel
theorem dX7_act_131 : decode cX7_act 131 = .ok (.invokevirtual 168, 3) := by decide +kernel
theorem dX7_act_134 : decode cX7_act 134 = .ok (.ireturn, 1) := by decide +kernel
theorem dX7_act_135 : decode cX7_act 135 = .ok (.iload_n 2, 1) := by decide +kernel
theorem dX7_act_136 : decode cX7_act 136 = .ok (.ifCond .ne 51, 3) := by decide +kernel
theorem dX7_act_139 : decode cX7_act 139 = .ok (.aload_n 0, 1) := by decide +kernel
theorem dX7_act_140 : decode cX7_act 140 = .ok (.getfield 150, 3) := by decide +kernel
theorem dX7_act_143 : decode cX7_act 143 = .ok (.iconst 1, 1) := by decide +kernel
theorem dX7_act_144 : decode cX7_act 144 = .ok (.if_icmp .ne 5, 3) := by decide +kernel
theorem dX7_act_147 : decode cX7_act 147 = .ok (.iconst 5, 1) := by decide +kernel
theorem dX7_act_148 : decode cX7_act 148 = .ok (.ireturn, 1) := by decide +kernel
theorem dX7_act_149 : decode cX7_act 149 = .ok (.aload_n 0, 1) := by decide +kernel
theorem dX7_act_150 : decode cX7_act 150 = .ok (.dup, 1) := by decide +kernel
theorem dX7_act_151 : decode cX7_act 151 = .ok (.getfield 150, 3) := by decide +kernel
theorem dX7_act_154 : decode cX7_act 154 = .ok (.iconst 1, 1) := by decide +kernel
theorem dX7_act_155 : decode cX7_act 155 = .ok (.isub, 1) := by decide +kernel
theorem dX7_act_156 : decode cX7_act 156 = .ok (.putfield 150, 3) := by decide +kernel
theorem dX7_act_159 : decode cX7_act 159 = .ok (.aload_n 0, 1) := by decide +kernel
theorem dX7_act_160 : decode cX7_act 160 = .ok (.aload_n 0, 1) := by decide +kernel
theorem dX7_act_161 : decode cX7_act 161 = .ok (.getfield 68, 3) := by decide +kernel
theorem dX7_act_164 : decode cX7_act 164 = .ok (.aload_n 0, 1) := by decide +kernel
theorem dX7_act_165 : decode cX7_act 165 = .ok (.getfield 150, 3) := by decide +kernel
theorem dX7_act_168 : decode cX7_act 168 = .ok (.iaload, 1) := by decide +kernel
theorem dX7_act_169 : decode cX7_act 169 = .ok (.putfield 159, 3) := by decide +kernel
theorem dX7_act_172 : decode cX7_act 172 = .ok (.aload_n 0, 1) := by decide +kernel
theorem dX7_act_173 : decode cX7_act 173 = .ok (.aload_n 0, 1) := by decide +kernel
theorem dX7_act_174 : decode cX7_act 174 = .ok (.getfield 65, 3) := by decide +kernel
theorem dX7_act_177 : decode cX7_act 177 = .ok (.aload_n 0, 1) := by decide +kernel
theorem dX7_act_178 : decode cX7_act 178 = .ok (.getfield 150, 3) := by decide +kernel
theorem dX7_act_181 : decode cX7_act 181 = .ok (.iaload, 1) := by decide +kernel
theorem dX7_act_182 : decode cX7_act 182 = .ok (.putfield 153, 3) := by decide +kernel
theorem dX7_act_185 : decode cX7_act 185 = .ok (.iconst 0, 1) := by decide +kernel
theorem dX7_act_186 : decode cX7_act 186 = .ok (.ireturn, 1) := by decide +kernel
theorem dX7_act_187 : decode cX7_act 187 = .ok (.aload_n 0, 1) := by decide +kernel
theorem dX7_act_188 : decode cX7_act 188 = .ok (.iload_n 2, 1) := by decide +kernel
theorem dX7_act_189 : decode cX7_act 189 = .ok (.iload_n 3, 1) := by decide +kernel
theorem dX7_act_190 : decode cX7_act 190 = .ok (.invokevirtual 171, 3) := by decide +kernel
theorem dX7_act_193 : decode cX7_act 193 = .ok (.aload_n 0, 1) := by decide +kernel
theorem dX7_act_194 : decode cX7_act 194 = .ok (.iload_n 2, 1) := by decide +kernel
theorem dX7_act_195 : decode cX7_act 195 = .ok (.bipush 6, 2) := by decide +kernel
theorem dX7_act_197 : decode cX7_act 197 = .ok (.if_icmp .eq 29, 3) := by decide +kernel
theorem dX7_act_200 : decode cX7_act 200 = .ok (.iload_n 2, 1) := by decide +kernel
theorem dX7_act_201 : decode cX7_act 201 = .ok (.bipush 7, 2) := by decide +kernel
theorem dX7_act_203 : decode cX7_act 203 = .ok (.if_icmp .ne 10, 3) := by decide +kernel
theorem dX7_act_206 : decode cX7_act 206 = .ok (.aload_n 0, 1) := by decide +kernel
theorem dX7_act_207 : decode cX7_act 207 = .ok (.getfield 140, 3) := by decide +kernel
theorem dX7_act_210 : decode cX7_act 210 = .ok (.ifCond .eq 16, 3) := by decide +kernel
theorem dX7_act_213 : decode cX7_act 213 = .ok (.iload_n 2, 1) := by decide +kernel
theorem dX7_act_214 : decode cX7_act 214 = .ok (.bipush 8, 2) := by decide +kernel
theorem dX7_act_216 : decode cX7_act 216 = .ok (.if_icmp .ne 15, 3) := by decide +kernel
theorem dX7_act_219 : decode cX7_act 219 = .ok (.aload_n 0, 1) := by decide +kernel
theorem dX7_act_220 : decode cX7_act 220 = .ok (.getfield 143, 3) := by decide +kernel
theorem dX7_act_223 : decode cX7_act 223 = .ok (.ifCond .eq 8, 3) := by decide +kernel
theorem dX7_act_226 : decode cX7_act 226 = .ok (.iload 5, 2) := by decide +kernel
theorem dX7_act_228 : decode cX7_act 228 = .ok (.goto 5, 3) := by decide +kernel
theorem dX7_act_231 : decode cX7_act 231 = .ok (.iload 4, 2) := by decide +kernel
theorem dX7_act_233 : decode cX7_act 233 = .ok (.putfield 159, 3) := by decide +kernel
theorem dX7_act_236 : decode cX7_act 236 = .ok (.iconst 0, 1) := by decide +kernel
theorem dX7_act_237 : decode cX7_act 237 = .ok (.ireturn, 1) := by decide +kernel
theorem dX7_run_0 : decode cX7_run 0 = .ok (.aload_n 0, 1) := by decide +kernel
theorem dX7_run_1 : decode cX7_run 1 = .ok (.iconst 0, 1) := by decide +kernel
theorem dX7_run_2 : decode cX7_run 2 = .ok (.putfield 71, 3) := by decide +kernel
theorem dX7_run_5 : decode cX7_run 5 = .ok (.aload_n 0, 1) := by decide +kernel
theorem dX7_run_6 : decode cX7_run 6 = .ok (.iload_n 1, 1) := by decide +kernel
theorem dX7_run_7 : decode cX7_run 7 = .ok (.invokevirtual 127, 3) := by decide +kernel
theorem dX7_run_10 : decode cX7_run 10 = .ok (.ifCond .ne 5, 3) := by decide +kernel
theorem dX7_run_13 : decode cX7_run 13 = .ok (.iconst (-1), 1) := by decide +kernel
theorem dX7_run_14 : decode cX7_run 14 = .ok (.ireturn, 1) := by decide +kernel
theorem dX7_run_15 : decode cX7_run 15 = .ok (.iload 4, 2) := by decide +kernel
theorem dX7_run_17 : decode cX7_run 17 = .ok (.iconst 1, 1) := by decide +kernel
theorem dX7_run_18 : decode cX7_run 18 = .ok (.sipush 400, 3) := by decide +kernel
theorem dX7_run_21 : decode cX7_run 21 = .ok (.invokestatic 78, 3) := by decide +kernel
theorem dX7_run_24 : decode cX7_run 24 = .ok (.ifCond .ne 6, 3) := by decide +kernel
theorem dX7_run_27 : decode cX7_run 27 = .ok (.bipush (-2), 2) := by decide +kernel
theorem dX7_run_29 : decode cX7_run 29 = .ok (.ireturn, 1) := by decide +kernel
theorem dX7_run_30 : decode cX7_run 30 = .ok (.aload_n 0, 1) := by decide +kernel
theorem dX7_run_31 : decode cX7_run 31 = .ok (.invokevirtual 99, 3) := by decide +kernel
theorem dX7_run_34 : decode cX7_run 34 = .ok (.aload_n 0, 1) := by decide +kernel
theorem dX7_run_35 : decode cX7_run 35 = .ok (.iload_n 2, 1) := by decide +kernel
theorem dX7_run_36 : decode cX7_run 36 = .ok (.putfield 140, 3) := by decide +kernel
theorem dX7_run_39 : decode cX7_run 39 = .ok (.aload_n 0, 1) := by decide +kernel
theorem dX7_run_40 : decode cX7_run 40 = .ok (.iload_n 3, 1) := by decide +kernel
theorem dX7_run_41 : decode cX7_run 41 = .ok (.putfield 143, 3) := by decide +kernel
theorem dX7_run_44 : decode cX7_run 44 = .ok (.aload_n 0, 1) := by decide +kernel
theorem dX7_run_45 : decode cX7_run 45 = .ok (.aload_n 0, 1) := by decide +kernel
theorem dX7_run_46 : decode cX7_run 46 = .ok (.getfield 13, 3) := by decide +kernel
theorem dX7_run_49 : decode cX7_run 49 = .ok (.iload_n 1, 1) := by decide +kernel
theorem dX7_run_50 : decode cX7_run 50 = .ok (.iaload, 1) := by decide +kernel
theorem dX7_run_51 : decode cX7_run 51 = .ok (.putfield 159, 3) := by decide +kernel
theorem dX7_run_54 : decode cX7_run 54 = .ok (.aload_n 0, 1) := by decide +kernel
theorem dX7_run_55 : decode cX7_run 55 = .ok (.iload_n 1, 1) := by decide +kernel
theorem dX7_run_56 : decode cX7_run 56 = .ok (.putfield 153, 3) := by decide +kernel
theorem dX7_run_59 : decode cX7_run 59 = .ok (.aload_n 0, 1) := by decide +kernel
theorem dX7_run_60 : decode cX7_run 60 = .ok (.iconst 1, 1) := by decide +kernel
theorem dX7_run_61 : decode cX7_run 61 = .ok (.putfield 150, 3) := by decide +kernel
theorem dX7_run_64 : decode cX7_run 64 = .ok (.aload_n 0, 1) := by decide +kernel
theorem dX7_run_65 : decode cX7_run 65 = .ok (.iconst 1, 1) := by decide +kernel
theorem dX7_run_66 : decode cX7_run 66 = .ok (.putfield 156, 3) := by decide +kernel
theorem dX7_run_69 : decode cX7_run 69 = .ok (.aload_n 0, 1) := by decide +kernel
theorem dX7_run_70 : decode cX7_run 70 = .ok (.iconst 0, 1) := by decide +kernel
theorem dX7_run_71 : decode cX7_run 71 = .ok (.putfield 162, 3) := by decide +kernel
theorem dX7_run_74 : decode cX7_run 74 = .ok (.aload_n 0, 1) := by decide +kernel
theorem dX7_run_75 : decode cX7_run 75 = .ok (.iconst 0, 1) := by decide +kernel
theorem dX7_run_76 : decode cX7_run 76 = .ok (.putfield 165, 3) := by decide +kernel
theorem dX7_run_79 : decode cX7_run 79 = .ok (.aload_n 0, 1) := by decide +kernel
theorem dX7_run_80 : decode cX7_run 80 = .ok (.iconst 0, 1) := by decide +kernel
theorem dX7_run_81 : decode cX7_run 81 = .ok (.putfield 137, 3) := by decide +kernel
theorem dX7_run_84 : decode cX7_run 84 = .ok (.aload_n 0, 1) := by decide +kernel
theorem dX7_run_85 : decode cX7_run 85 = .ok (.iconst 0, 1) := by decide +kernel
theorem dX7_run_86 : decode cX7_run 86 = .ok (.putfield 134, 3) := by decide +kernel
theorem dX7_run_89 : decode cX7_run 89 = .ok (.iconst 0, 1) := by decide +kernel
theorem dX7_run_90 : decode cX7_run 90 = .ok (.istore 5, 2) := by decide +kernel
theorem dX7_run_92 : decode cX7_run 92 = .ok (.iload 5, 2) := by decide +kernel
theorem dX7_run_94 : decode cX7_run 94 = .ok (.ifCond .ne 14, 3) := by decide +kernel
theorem dX7_run_97 : decode cX7_run 97 = .ok (.aload_n 0, 1) := by decide +kernel
theorem dX7_run_98 : decode cX7_run 98 = .ok (.iload 4, 2) := by decide +kernel
theorem dX7_run_100 : decode cX7_run 100 = .ok (.invokevirtual 174, 3) := by decide +kernel
theorem dX7_run_103 : decode cX7_run 103 = .ok (.istore 5, 2) := by decide +kernel
theorem dX7_run_105 : decode cX7_run 105 = .ok (.goto (-13), 3) := by decide +kernel
theorem dX7_run_108 : decode cX7_run 108 = .ok (.aload_n 0, 1) := by decide +kernel
theorem dX7_run_109 : decode cX7_run 109 = .ok (.getfield 134, 3) := by decide +kernel
theorem dX7_run_112 : decode cX7_run 112 = .ok (.ifCond .le 7, 3) := by decide +kernel
theorem dX7_run_115 : decode cX7_run 115 = .ok (.aload_n 0, 1) := by decide +kernel
theorem dX7_run_116 : decode cX7_run 116 = .ok (.invokevirtual 108, 3) := by decide +kernel
theorem dX7_run_119 : decode cX7_run 119 = .ok (.aload_n 0, 1) := by decide +kernel
theorem dX7_run_120 : decode cX7_run 120 = .ok (.dup, 1) := by decide +kernel
theorem dX7_run_121 : decode cX7_run 121 = .ok (.getfield 177, 3) := by decide +kernel
theorem dX7_run_124 : decode cX7_run 124 = .ok (.aload_n 0, 1) := by decide +kernel
theorem dX7_run_125 : decode cX7_run 125 = .ok (.getfield 165, 3) := by decide +kernel
theorem dX7_run_128 : decode cX7_run 128 = .ok (.i2l, 1) := by decide +kernel
theorem dX7_run_129 : decode cX7_run 129 = .ok (.ladd, 1) := by decide +kernel
theorem dX7_run_130 : decode cX7_run 130 = .ok (.putfield 177, 3) := by decide +kernel
theorem dX7_run_133 : decode cX7_run 133 = .ok (.aload_n 0, 1) := by decide +kernel
theorem dX7_run_134 : decode cX7_run 134 = .ok (.dup, 1) := by decide +kernel
theorem dX7_run_135 : decode cX7_run 135 = .ok (.getfield 181, 3) := by decide +kernel
theorem dX7_run_138 : decode cX7_run 138 = .ok (.aload_n 0, 1) := by decide +kernel
theorem dX7_run_139 : decode cX7_run 139 = .ok (.getfield 162, 3) := by decide +kernel
theorem dX7_run_142 : decode cX7_run 142 = .ok (.aload_n 0, 1) := by decide +kernel
theorem dX7_run_143 : decode cX7_run 143 = .ok (.getfield 165, 3) := by decide +kernel
theorem dX7_run_146 : decode cX7_run 146 = .ok (.isub, 1) := by decide +kernel
theorem dX7_run_147 : decode cX7_run 147 = .ok (.i2l, 1) := by decide +kernel
theorem dX7_run_148 : decode cX7_run 148 = .ok (.ladd, 1) := by decide +kernel
theorem dX7_run_149 : decode cX7_run 149 = .ok (.putfield 181, 3) := by decide +kernel
theorem dX7_run_152 : decode cX7_run 152 = .ok (.aload_n 0, 1) := by decide +kernel
theorem dX7_run_153 : decode cX7_run 153 = .ok (.getfield 53, 3) := by decide +kernel
theorem dX7_run_156 : decode cX7_run 156 = .ok (.iconst 0, 1) := by decide +kernel
theorem dX7_run_157 : decode cX7_run 157 = .ok (.aload_n 0, 1) := by decide +kernel
theorem dX7_run_158 : decode cX7_run 158 = .ok (.getfield 140, 3) := by decide +kernel
theorem dX7_run_161 : decode cX7_run 161 = .ok (.iastore, 1) := by decide +kernel
theorem dX7_run_162 : decode cX7_run 162 = .ok (.aload_n 0, 1) := by decide +kernel
theorem dX7_run_163 : decode cX7_run 163 = .ok (.getfield 53, 3) := by decide +kernel
theorem dX7_run_166 : decode cX7_run 166 = .ok (.iconst 1, 1) := by decide +kernel
theorem dX7_run_167 : decode cX7_run 167 = .ok (.aload_n 0, 1) := by decide +kernel
theorem dX7_run_168 : decode cX7_run 168 = .ok (.getfield 143, 3) := by decide +kernel
theorem dX7_run_171 : decode cX7_run 171 = .ok (.iastore, 1) := by decide +kernel
theorem dX7_run_172 : decode cX7_run 172 = .ok (.aload_n 0, 1) := by decide +kernel
theorem dX7_run_173 : decode cX7_run 173 = .ok (.getfield 53, 3) := by decide +kernel
theorem dX7_run_176 : decode cX7_run 176 = .ok (.iconst 2, 1) := by decide +kernel
theorem dX7_run_177 : decode cX7_run 177 = .ok (.aload_n 0, 1) := by decide +kernel
theorem dX7_run_178 : decode cX7_run 178 = .ok (.getfield 162, 3) := by decide +kernel
theorem dX7_run_181 : decode cX7_run 181 = .ok (.iastore, 1) := by decide +kernel
theorem dX7_run_182 : decode cX7_run 182 = .ok (.aload_n 0, 1) := by decide +kernel
theorem dX7_run_183 : decode cX7_run 183 = .ok (.getfield 53, 3) := by decide +kernel
theorem dX7_run_186 : decode cX7_run 186 = .ok (.iconst 3, 1) := by decide +kernel
theorem dX7_run_187 : decode cX7_run 187 = .ok (.aload_n 0, 1) := by decide +kernel
theorem dX7_run_188 : decode cX7_run 188 = .ok (.getfield 165, 3) := by decide +kernel
theorem dX7_run_191 : decode cX7_run 191 = .ok (.iastore, 1) := by decide +kernel
theorem dX7_run_192 : decode cX7_run 192 = .ok (.aload_n 0, 1) := by decide +kernel
theorem dX7_run_193 : decode cX7_run 193 = .ok (.getfield 53, 3) := by decide +kernel
theorem dX7_run_196 : decode cX7_run 196 = .ok (.iconst 4, 1) := by decide +kernel
theorem dX7_run_197 : decode cX7_run 197 = .ok (.aload_n 0, 1) := by decide +kernel
theorem dX7_run_198 : decode cX7_run 198 = .ok (.getfield 162, 3) := by decide +kernel
theorem dX7_run_201 : decode cX7_run 201 = .ok (.aload_n 0, 1) := by decide +kernel
theorem dX7_run_202 : decode cX7_run 202 = .ok (.getfield 165, 3) := by decide +kernel
theorem dX7_run_205 : decode cX7_run 205 = .ok (.isub, 1) := by decide +kernel
theorem dX7_run_206 : decode cX7_run 206 = .ok (.iastore, 1) := by decide +kernel
theorem dX7_run_207 : decode cX7_run 207 = .ok (.aload_n 0, 1) := by decide +kernel
theorem dX7_run_208 : decode cX7_run 208 = .ok (.getfield 53, 3) := by decide +kernel
theorem dX7_run_211 : decode cX7_run 211 = .ok (.iconst 5, 1) := by decide +kernel
theorem dX7_run_212 : decode cX7_run 212 = .ok (.aload_n 0, 1) := by decide +kernel
theorem dX7_run_213 : decode cX7_run 213 = .ok (.getfield 137, 3) := by decide +kernel
theorem dX7_run_216 : decode cX7_run 216 = .ok (.iastore, 1) := by decide +kernel
theorem dX7_run_217 : decode cX7_run 217 = .ok (.aload_n 0, 1) := by decide +kernel
theorem dX7_run_218 : decode cX7_run 218 = .ok (.getfield 53, 3) := by decide +kernel
theorem dX7_run_221 : decode cX7_run 221 = .ok (.bipush 6, 2) := by decide +kernel
theorem dX7_run_223 : decode cX7_run 223 = .ok (.aload_n 0, 1) := by decide +kernel
theorem dX7_run_224 : decode cX7_run 224 = .ok (.getfield 159, 3) := by decide +kernel
theorem dX7_run_227 : decode cX7_run 227 = .ok (.iastore, 1) := by decide +kernel
theorem dX7_run_228 : decode cX7_run 228 = .ok (.aload_n 0, 1) := by decide +kernel
theorem dX7_run_229 : decode cX7_run 229 = .ok (.getfield 53, 3) := by decide +kernel
theorem dX7_run_232 : decode cX7_run 232 = .ok (.bipush 7, 2) := by decide +kernel
theorem dX7_run_234 : decode cX7_run 234 = .ok (.aload_n 0, 1) := by decide +kernel
theorem dX7_run_235 : decode cX7_run 235 = .ok (.getfield 156, 3) := by decide +kernel
theorem dX7_run_238 : decode cX7_run 238 = .ok (.iastore, 1) := by decide +kernel
theorem dX7_run_239 : decode cX7_run 239 = .ok (.aload_n 0, 1) := by decide +kernel
theorem dX7_run_240 : decode cX7_run 240 = .ok (.getfield 53, 3) := by decide +kernel
theorem dX7_run_243 : decode cX7_run 243 = .ok (.bipush 8, 2) := by decide +kernel
theorem dX7_run_245 : decode cX7_run 245 = .ok (.aload_n 0, 1) := by decide +kernel
theorem dX7_run_246 : decode cX7_run 246 = .ok (.getfield 134, 3) := by decide +kernel
theorem dX7_run_249 : decode cX7_run 249 = .ok (.iastore, 1) := by decide +kernel
theorem dX7_run_250 : decode cX7_run 250 = .ok (.iload 5, 2) := by decide +kernel
theorem dX7_run_252 : decode cX7_run 252 = .ok (.iconst 5, 1) := by decide +kernel
theorem dX7_run_253 : decode cX7_run 253 = .ok (.if_icmp .ne 7, 3) := by decide +kernel
theorem dX7_run_256 : decode cX7_run 256 = .ok (.iconst 1, 1) := by decide +kernel
theorem dX7_run_257 : decode cX7_run 257 = .ok (.goto 6, 3) := by decide +kernel
theorem dX7_run_260 : decode cX7_run 260 = .ok (.iload 5, 2) := by decide +kernel
theorem dX7_run_262 : decode cX7_run 262 = .ok (.ineg, 1) := by decide +kernel
theorem dX7_run_263 : decode cX7_run 263 = .ok (.ireturn, 1) := by decide +kernel
theorem dX7_ran_0 : decode cX7_ran 0 = .ok (.aload_n 0, 1) := by decide +kernel
theorem dX7_ran_1 : decode cX7_ran 1 = .ok (.iconst 0, 1) := by decide +kernel
theorem dX7_ran_2 : decode cX7_ran 2 = .ok (.putfield 71, 3) := by decide +kernel
theorem dX7_ran_5 : decode cX7_ran 5 = .ok (.iload_n 1, 1) := by decide +kernel
theorem dX7_ran_6 : decode cX7_ran 6 = .ok (.iconst 0, 1) := by decide +kernel
theorem dX7_ran_7 : decode cX7_ran 7 = .ok (.bipush 8, 2) := by decide +kernel
theorem dX7_ran_9 : decode cX7_ran 9 = .ok (.invokestatic 78, 3) := by decide +kernel
theorem dX7_ran_12 : decode cX7_ran 12 = .ok (.ifCond .eq 12, 3) := by decide +kernel
theorem dX7_ran_15 : decode cX7_ran 15 = .ok (.aload_n 0, 1) := by decide +kernel
theorem dX7_ran_16 : decode cX7_ran 16 = .ok (.getfield 53, 3) := by decide +kernel
theorem dX7_ran_19 : decode cX7_ran 19 = .ok (.iload_n 1, 1) := by decide +kernel
theorem dX7_ran_20 : decode cX7_ran 20 = .ok (.iaload, 1) := by decide +kernel
theorem dX7_ran_21 : decode cX7_ran 21 = .ok (.goto 5, 3) := by decide +kernel
theorem dX7_ran_24 : decode cX7_ran 24 = .ok (.ldc 184, 2) := by decide +kernel
theorem dX7_ran_26 : decode cX7_ran 26 = .ok (.ireturn, 1) := by decide +kernel
theorem dX7_alike_0 : decode cX7_alike 0 = .ok (.aload_n 0, 1) := by decide +kernel
theorem dX7_alike_1 : decode cX7_alike 1 = .ok (.iconst 0, 1) := by decide +kernel
theorem dX7_alike_2 : decode cX7_alike 2 = .ok (.putfield 71, 3) := by decide +kernel
theorem dX7_alike_5 : decode cX7_alike 5 = .ok (.aload_n 0, 1) := by decide +kernel
theorem dX7_alike_6 : decode cX7_alike 6 = .ok (.iload_n 1, 1) := by decide +kernel
theorem dX7_alike_7 : decode cX7_alike 7 = .ok (.invokevirtual 127, 3) := by decide +kernel
theorem dX7_alike_10 : decode cX7_alike 10 = .ok (.ifCond .ne 7, 3) := by decide +kernel
theorem dX7_alike_13 : decode cX7_alike 13 = .ok (.iconst (-1), 1) := by decide +kernel
theorem dX7_alike_14 : decode cX7_alike 14 = .ok (.goto 21, 3) := by decide +kernel
theorem dX7_alike_17 : decode cX7_alike 17 = .ok (.iload 4, 2) := by decide +kernel
theorem dX7_alike_19 : decode cX7_alike 19 = .ok (.iconst 1, 1) := by decide +kernel
theorem dX7_alike_20 : decode cX7_alike 20 = .ok (.sipush 400, 3) := by decide +kernel
theorem dX7_alike_23 : decode cX7_alike 23 = .ok (.invokestatic 78, 3) := by decide +kernel
theorem dX7_alike_26 : decode cX7_alike 26 = .ok (.ifCond .eq 7, 3) := by decide +kernel
theorem dX7_alike_29 : decode cX7_alike 29 = .ok (.iconst 1, 1) := by decide +kernel
theorem dX7_alike_30 : decode cX7_alike 30 = .ok (.goto 5, 3) := by decide +kernel
theorem dX7_alike_33 : decode cX7_alike 33 = .ok (.bipush (-2), 2) := by decide +kernel
theorem dX7_alike_35 : decode cX7_alike 35 = .ok (.ireturn, 1) := by decide +kernel
theorem dX7_page_0 : decode cX7_page 0 = .ok (.aload_n 0, 1) := by decide +kernel
theorem dX7_page_1 : decode cX7_page 1 = .ok (.iconst 0, 1) := by decide +kernel
theorem dX7_page_2 : decode cX7_page 2 = .ok (.putfield 71, 3) := by decide +kernel
theorem dX7_page_5 : decode cX7_page 5 = .ok (.iload_n 1, 1) := by decide +kernel
theorem dX7_page_6 : decode cX7_page 6 = .ok (.iconst 0, 1) := by decide +kernel
theorem dX7_page_7 : decode cX7_page 7 = .ok (.bipush 15, 2) := by decide +kernel
theorem dX7_page_9 : decode cX7_page 9 = .ok (.invokestatic 78, 3) := by decide +kernel
theorem dX7_page_12 : decode cX7_page 12 = .ok (.ifCond .ne 6, 3) := by decide +kernel
theorem dX7_page_15 : decode cX7_page 15 = .ok (.bipush (-2), 2) := by decide +kernel
theorem dX7_page_17 : decode cX7_page 17 = .ok (.ireturn, 1) := by decide +kernel
theorem dX7_page_18 : decode cX7_page 18 = .ok (.iconst 0, 1) := by decide +kernel
theorem dX7_page_19 : decode cX7_page 19 = .ok (.istore_n 2, 1) := by decide +kernel
theorem dX7_page_20 : decode cX7_page 20 = .ok (.iconst 0, 1) := by decide +kernel
theorem dX7_page_21 : decode cX7_page 21 = .ok (.istore_n 3, 1) := by decide +kernel
theorem dX7_page_22 : decode cX7_page 22 = .ok (.iload_n 3, 1) := by decide +kernel
theorem dX7_page_23 : decode cX7_page 23 = .ok (.aload_n 0, 1) := by decide +kernel
theorem dX7_page_24 : decode cX7_page 24 = .ok (.getfield 75, 3) := by decide +kernel
theorem dX7_page_27 : decode cX7_page 27 = .ok (.if_icmp .ge 83, 3) := by decide +kernel
theorem dX7_page_30 : decode cX7_page 30 = .ok (.iconst 0, 1) := by decide +kernel
theorem dX7_page_31 : decode cX7_page 31 = .ok (.istore 4, 2) := by decide +kernel
theorem dX7_page_33 : decode cX7_page 33 = .ok (.iconst 0, 1) := by decide +kernel
theorem dX7_page_34 : decode cX7_page 34 = .ok (.istore 5, 2) := by decide +kernel
theorem dX7_page_36 : decode cX7_page 36 = .ok (.iload 5, 2) := by decide +kernel
theorem dX7_page_38 : decode cX7_page 38 = .ok (.bipush 16, 2) := by decide +kernel
theorem dX7_page_40 : decode cX7_page 40 = .ok (.if_icmp .ge 51, 3) := by decide +kernel
theorem dX7_page_43 : decode cX7_page 43 = .ok (.aload_n 0, 1) := by decide +kernel
theorem dX7_page_44 : decode cX7_page 44 = .ok (.getfield 16, 3) := by decide +kernel
theorem dX7_page_47 : decode cX7_page 47 = .ok (.iload_n 3, 1) := by decide +kernel
theorem dX7_page_48 : decode cX7_page 48 = .ok (.baload, 1) := by decide +kernel
theorem dX7_page_49 : decode cX7_page 49 = .ok (.ifCond .eq 42, 3) := by decide +kernel
theorem dX7_page_52 : decode cX7_page 52 = .ok (.iload 4, 2) := by decide +kernel
theorem dX7_page_54 : decode cX7_page 54 = .ok (.ifCond .ne 24, 3) := by decide +kernel
theorem dX7_page_57 : decode cX7_page 57 = .ok (.aload_n 0, 1) := by decide +kernel
theorem dX7_page_58 : decode cX7_page 58 = .ok (.getfield 23, 3) := by decide +kernel
theorem dX7_page_61 : decode cX7_page 61 = .ok (.sipush 256, 3) := by decide +kernel
theorem dX7_page_64 : decode cX7_page 64 = .ok (.iload_n 3, 1) := by decide +kernel
theorem dX7_page_65 : decode cX7_page 65 = .ok (.imul, 1) := by decide +kernel
theorem dX7_page_66 : decode cX7_page 66 = .ok (.bipush 16, 2) := by decide +kernel
theorem dX7_page_68 : decode cX7_page 68 = .ok (.iload_n 1, 1) := by decide +kernel
theorem dX7_page_69 : decode cX7_page 69 = .ok (.imul, 1) := by decide +kernel
theorem dX7_page_70 : decode cX7_page 70 = .ok (.iadd, 1) := by decide +kernel
theorem dX7_page_71 : decode cX7_page 71 = .ok (.iload 5, 2) := by decide +kernel
theorem dX7_page_73 : decode cX7_page 73 = .ok (.iadd, 1) := by decide +kernel
theorem dX7_page_74 : decode cX7_page 74 = .ok (.baload, 1) := by decide +kernel
theorem dX7_page_75 : decode cX7_page 75 = .ok (.ifCond .eq 7, 3) := by decide +kernel
theorem dX7_page_78 : decode cX7_page 78 = .ok (.iconst 1, 1) := by decide +kernel
theorem dX7_page_79 : decode cX7_page 79 = .ok (.goto 4, 3) := by decide +kernel
theorem dX7_page_82 : decode cX7_page 82 = .ok (.iconst 0, 1) := by decide +kernel
theorem dX7_page_83 : decode cX7_page 83 = .ok (.istore 4, 2) := by decide +kernel
theorem dX7_page_85 : decode cX7_page 85 = .ok (.iinc 5 1, 3) := by decide +kernel
theorem dX7_page_88 : decode cX7_page 88 = .ok (.goto (-52), 3) := by decide +kernel
theorem dX7_page_91 : decode cX7_page 91 = .ok (.iload_n 2, 1) := by decide +kernel
theorem dX7_page_92 : decode cX7_page 92 = .ok (.iload 4, 2) := by decide +kernel
theorem dX7_page_94 : decode cX7_page 94 = .ok (.ifCond .eq 7, 3) := by decide +kernel
theorem dX7_page_97 : decode cX7_page 97 = .ok (.iconst 1, 1) := by decide +kernel
theorem dX7_page_98 : decode cX7_page 98 = .ok (.goto 4, 3) := by decide +kernel
theorem dX7_page_101 : decode cX7_page 101 = .ok (.iconst 0, 1) := by decide +kernel
theorem dX7_page_102 : decode cX7_page 102 = .ok (.iadd, 1) := by decide +kernel
theorem dX7_page_103 : decode cX7_page 103 = .ok (.istore_n 2, 1) := by decide +kernel
theorem dX7_page_104 : decode cX7_page 104 = .ok (.iinc 3 1, 3) := by decide +kernel
theorem dX7_page_107 : decode cX7_page 107 = .ok (.goto (-85), 3) := by decide +kernel
theorem dX7_page_110 : decode cX7_page 110 = .ok (.iload_n 2, 1) := by decide +kernel
theorem dX7_page_111 : decode cX7_page 111 = .ok (.ireturn, 1) := by decide +kernel
theorem dX7_snapshot_0 : decode cX7_snapshot 0 = .ok (.aload_n 0, 1) := by decide +kernel
theorem dX7_snapshot_1 : decode cX7_snapshot 1 = .ok (.iconst 0, 1) := by decide +kernel
theorem dX7_snapshot_2 : decode cX7_snapshot 2 = .ok (.putfield 71, 3) := by decide +kernel
theorem dX7_snapshot_5 : decode cX7_snapshot 5 = .ok (.aload_n 0, 1) := by decide +kernel
theorem dX7_snapshot_6 : decode cX7_snapshot 6 = .ok (.getfield 185, 3) := by decide +kernel
theorem dX7_snapshot_9 : decode cX7_snapshot 9 = .ok (.iconst 4, 1) := by decide +kernel
theorem dX7_snapshot_10 : decode cX7_snapshot 10 = .ok (.if_icmp .ne 6, 3) := by decide +kernel
theorem dX7_snapshot_13 : decode cX7_snapshot 13 = .ok (.bipush (-4), 2) := by decide +kernel
theorem dX7_snapshot_15 : decode cX7_snapshot 15 = .ok (.ireturn, 1) := by decide +kernel
theorem dX7_snapshot_16 : decode cX7_snapshot 16 = .ok (.iconst 0, 1) := by decide +kernel
theorem dX7_snapshot_17 : decode cX7_snapshot 17 = .ok (.istore_n 1, 1) := by decide +kernel
theorem dX7_snapshot_18 : decode cX7_snapshot 18 = .ok (.iload_n 1, 1) := by decide +kernel
theorem dX7_snapshot_19 : decode cX7_snapshot 19 = .ok (.sipush 256, 3) := by decide +kernel
theorem dX7_snapshot_22 : decode cX7_snapshot 22 = .ok (.if_icmp .ge 30, 3) := by decide +kernel
theorem dX7_snapshot_25 : decode cX7_snapshot 25 = .ok (.aload_n 0, 1) := by decide +kernel
theorem dX7_snapshot_26 : decode cX7_snapshot 26 = .ok (.getfield 44, 3) := by decide +kernel
theorem dX7_snapshot_29 : decode cX7_snapshot 29 = .ok (.sipush 256, 3) := by decide +kernel
theorem dX7_snapshot_32 : decode cX7_snapshot 32 = .ok (.aload_n 0, 1) := by decide +kernel
theorem dX7_snapshot_33 : decode cX7_snapshot 33 = .ok (.getfield 185, 3) := by decide +kernel
theorem dX7_snapshot_36 : decode cX7_snapshot 36 = .ok (.imul, 1) := by decide +kernel
theorem dX7_snapshot_37 : decode cX7_snapshot 37 = .ok (.iload_n 1, 1) := by decide +kernel
theorem dX7_snapshot_38 : decode cX7_snapshot 38 = .ok (.iadd, 1) := by decide +kernel
theorem dX7_snapshot_39 : decode cX7_snapshot 39 = .ok (.aload_n 0, 1) := by decide +kernel
theorem dX7_snapshot_40 : decode cX7_snapshot 40 = .ok (.getfield 7, 3) := by decide +kernel
theorem dX7_snapshot_43 : decode cX7_snapshot 43 = .ok (.iload_n 1, 1) := by decide +kernel
theorem dX7_snapshot_44 : decode cX7_snapshot 44 = .ok (.iaload, 1) := by decide +kernel
theorem dX7_snapshot_45 : decode cX7_snapshot 45 = .ok (.iastore, 1) := by decide +kernel
theorem dX7_snapshot_46 : decode cX7_snapshot 46 = .ok (.iinc 1 1, 3) := by decide +kernel
theorem dX7_snapshot_49 : decode cX7_snapshot 49 = .ok (.goto (-31), 3) := by decide +kernel
theorem dX7_snapshot_52 : decode cX7_snapshot 52 = .ok (.aload_n 0, 1) := by decide +kernel
theorem dX7_snapshot_53 : decode cX7_snapshot 53 = .ok (.dup, 1) := by decide +kernel
theorem dX7_snapshot_54 : decode cX7_snapshot 54 = .ok (.getfield 185, 3) := by decide +kernel
theorem dX7_snapshot_57 : decode cX7_snapshot 57 = .ok (.iconst 1, 1) := by decide +kernel
theorem dX7_snapshot_58 : decode cX7_snapshot 58 = .ok (.iadd, 1) := by decide +kernel
theorem dX7_snapshot_59 : decode cX7_snapshot 59 = .ok (.putfield 185, 3) := by decide +kernel
theorem dX7_snapshot_62 : decode cX7_snapshot 62 = .ok (.aload_n 0, 1) := by decide +kernel
theorem dX7_snapshot_63 : decode cX7_snapshot 63 = .ok (.getfield 185, 3) := by decide +kernel
theorem dX7_snapshot_66 : decode cX7_snapshot 66 = .ok (.iconst 1, 1) := by decide +kernel
theorem dX7_snapshot_67 : decode cX7_snapshot 67 = .ok (.isub, 1) := by decide +kernel
theorem dX7_snapshot_68 : decode cX7_snapshot 68 = .ok (.ireturn, 1) := by decide +kernel
theorem dX7_isAsMade_0 : decode cX7_isAsMade 0 = .ok (.iconst 1, 1) := by decide +kernel
theorem dX7_isAsMade_1 : decode cX7_isAsMade 1 = .ok (.istore_n 2, 1) := by decide +kernel
theorem dX7_isAsMade_2 : decode cX7_isAsMade 2 = .ok (.iconst 0, 1) := by decide +kernel
theorem dX7_isAsMade_3 : decode cX7_isAsMade 3 = .ok (.istore_n 3, 1) := by decide +kernel
theorem dX7_isAsMade_4 : decode cX7_isAsMade 4 = .ok (.iload_n 3, 1) := by decide +kernel
theorem dX7_isAsMade_5 : decode cX7_isAsMade 5 = .ok (.sipush 256, 3) := by decide +kernel
theorem dX7_isAsMade_8 : decode cX7_isAsMade 8 = .ok (.if_icmp .ge 55, 3) := by decide +kernel
theorem dX7_isAsMade_11 : decode cX7_isAsMade 11 = .ok (.iload_n 2, 1) := by decide +kernel
theorem dX7_isAsMade_12 : decode cX7_isAsMade 12 = .ok (.ifCond .eq 43, 3) := by decide +kernel
theorem dX7_isAsMade_15 : decode cX7_isAsMade 15 = .ok (.aload_n 0, 1) := by decide +kernel
theorem dX7_isAsMade_16 : decode cX7_isAsMade 16 = .ok (.getfield 38, 3) := by decide +kernel
theorem dX7_isAsMade_19 : decode cX7_isAsMade 19 = .ok (.sipush 256, 3) := by decide +kernel
theorem dX7_isAsMade_22 : decode cX7_isAsMade 22 = .ok (.iload_n 1, 1) := by decide +kernel
theorem dX7_isAsMade_23 : decode cX7_isAsMade 23 = .ok (.imul, 1) := by decide +kernel
theorem dX7_isAsMade_24 : decode cX7_isAsMade 24 = .ok (.iload_n 3, 1) := by decide +kernel
theorem dX7_isAsMade_25 : decode cX7_isAsMade 25 = .ok (.iadd, 1) := by decide +kernel
theorem dX7_isAsMade_26 : decode cX7_isAsMade 26 = .ok (.baload, 1) := by decide +kernel
theorem dX7_isAsMade_27 : decode cX7_isAsMade 27 = .ok (.ifCond .eq 24, 3) := by decide +kernel
theorem dX7_isAsMade_30 : decode cX7_isAsMade 30 = .ok (.aload_n 0, 1) := by decide +kernel
theorem dX7_isAsMade_31 : decode cX7_isAsMade 31 = .ok (.getfield 41, 3) := by decide +kernel
theorem dX7_isAsMade_34 : decode cX7_isAsMade 34 = .ok (.sipush 256, 3) := by decide +kernel
theorem dX7_isAsMade_37 : decode cX7_isAsMade 37 = .ok (.iload_n 1, 1) := by decide +kernel
theorem dX7_isAsMade_38 : decode cX7_isAsMade 38 = .ok (.imul, 1) := by decide +kernel
theorem dX7_isAsMade_39 : decode cX7_isAsMade 39 = .ok (.iload_n 3, 1) := by decide +kernel
theorem dX7_isAsMade_40 : decode cX7_isAsMade 40 = .ok (.iadd, 1) := by decide +kernel
theorem dX7_isAsMade_41 : decode cX7_isAsMade 41 = .ok (.iaload, 1) := by decide +kernel
theorem dX7_isAsMade_42 : decode cX7_isAsMade 42 = .ok (.aload_n 0, 1) := by decide +kernel
theorem dX7_isAsMade_43 : decode cX7_isAsMade 43 = .ok (.getfield 7, 3) := by decide +kernel
theorem dX7_isAsMade_46 : decode cX7_isAsMade 46 = .ok (.iload_n 3, 1) := by decide +kernel
theorem dX7_isAsMade_47 : decode cX7_isAsMade 47 = .ok (.iaload, 1) := by decide +kernel
theorem dX7_isAsMade_48 : decode cX7_isAsMade 48 = .ok (.if_icmp .ne 7, 3) := by decide +kernel
theorem dX7_isAsMade_51 : decode cX7_isAsMade 51 = .ok (.iconst 1, 1) := by decide +kernel
theorem dX7_isAsMade_52 : decode cX7_isAsMade 52 = .ok (.goto 4, 3) := by decide +kernel
theorem dX7_isAsMade_55 : decode cX7_isAsMade 55 = .ok (.iconst 0, 1) := by decide +kernel
theorem dX7_isAsMade_56 : decode cX7_isAsMade 56 = .ok (.istore_n 2, 1) := by decide +kernel
theorem dX7_isAsMade_57 : decode cX7_isAsMade 57 = .ok (.iinc 3 1, 3) := by decide +kernel
theorem dX7_isAsMade_60 : decode cX7_isAsMade 60 = .ok (.goto (-56), 3) := by decide +kernel
theorem dX7_isAsMade_63 : decode cX7_isAsMade 63 = .ok (.iload_n 2, 1) := by decide +kernel
theorem dX7_isAsMade_64 : decode cX7_isAsMade 64 = .ok (.ireturn, 1) := by decide +kernel
theorem dX7_returned_0 : decode cX7_returned 0 = .ok (.iconst 0, 1) := by decide +kernel
theorem dX7_returned_1 : decode cX7_returned 1 = .ok (.istore_n 1, 1) := by decide +kernel
theorem dX7_returned_2 : decode cX7_returned 2 = .ok (.iconst 0, 1) := by decide +kernel
theorem dX7_returned_3 : decode cX7_returned 3 = .ok (.istore_n 2, 1) := by decide +kernel
theorem dX7_returned_4 : decode cX7_returned 4 = .ok (.iload_n 2, 1) := by decide +kernel
theorem dX7_returned_5 : decode cX7_returned 5 = .ok (.sipush 256, 3) := by decide +kernel
theorem dX7_returned_8 : decode cX7_returned 8 = .ok (.if_icmp .ge 33, 3) := by decide +kernel
theorem dX7_returned_11 : decode cX7_returned 11 = .ok (.aload_n 0, 1) := by decide +kernel
theorem dX7_returned_12 : decode cX7_returned 12 = .ok (.iload_n 2, 1) := by decide +kernel
theorem dX7_returned_13 : decode cX7_returned 13 = .ok (.aload_n 0, 1) := by decide +kernel
theorem dX7_returned_14 : decode cX7_returned 14 = .ok (.getfield 50, 3) := by decide +kernel
theorem dX7_returned_17 : decode cX7_returned 17 = .ok (.iload_n 2, 1) := by decide +kernel
theorem dX7_returned_18 : decode cX7_returned 18 = .ok (.iaload, 1) := by decide +kernel
theorem dX7_returned_19 : decode cX7_returned 19 = .ok (.invokevirtual 104, 3) := by decide +kernel
theorem dX7_returned_22 : decode cX7_returned 22 = .ok (.istore_n 3, 1) := by decide +kernel
theorem dX7_returned_23 : decode cX7_returned 23 = .ok (.iload_n 1, 1) := by decide +kernel
theorem dX7_returned_24 : decode cX7_returned 24 = .ok (.iload_n 3, 1) := by decide +kernel
theorem dX7_returned_25 : decode cX7_returned 25 = .ok (.ifCond .le 7, 3) := by decide +kernel
theorem dX7_returned_28 : decode cX7_returned 28 = .ok (.iload_n 3, 1) := by decide +kernel
theorem dX7_returned_29 : decode cX7_returned 29 = .ok (.goto 4, 3) := by decide +kernel
theorem dX7_returned_32 : decode cX7_returned 32 = .ok (.iconst 0, 1) := by decide +kernel
theorem dX7_returned_33 : decode cX7_returned 33 = .ok (.iadd, 1) := by decide +kernel
theorem dX7_returned_34 : decode cX7_returned 34 = .ok (.istore_n 1, 1) := by decide +kernel
theorem dX7_returned_35 : decode cX7_returned 35 = .ok (.iinc 2 1, 3) := by decide +kernel
theorem dX7_returned_38 : decode cX7_returned 38 = .ok (.goto (-34), 3) := by decide +kernel
theorem dX7_returned_41 : decode cX7_returned 41 = .ok (.iconst 0, 1) := by decide +kernel
theorem dX7_returned_42 : decode cX7_returned 42 = .ok (.istore_n 2, 1) := by decide +kernel
theorem dX7_returned_43 : decode cX7_returned 43 = .ok (.iconst 0, 1) := by decide +kernel
theorem dX7_returned_44 : decode cX7_returned 44 = .ok (.istore_n 3, 1) := by decide +kernel
theorem dX7_returned_45 : decode cX7_returned 45 = .ok (.iload_n 3, 1) := by decide +kernel
theorem dX7_returned_46 : decode cX7_returned 46 = .ok (.aload_n 0, 1) := by decide +kernel
theorem dX7_returned_47 : decode cX7_returned 47 = .ok (.getfield 75, 3) := by decide +kernel
theorem dX7_returned_50 : decode cX7_returned 50 = .ok (.if_icmp .ge 131, 3) := by decide +kernel
theorem dX7_returned_53 : decode cX7_returned 53 = .ok (.aload_n 0, 1) := by decide +kernel
theorem dX7_returned_54 : decode cX7_returned 54 = .ok (.getfield 32, 3) := by decide +kernel
theorem dX7_returned_57 : decode cX7_returned 57 = .ok (.iload_n 3, 1) := by decide +kernel
theorem dX7_returned_58 : decode cX7_returned 58 = .ok (.baload, 1) := by decide +kernel
theorem dX7_returned_59 : decode cX7_returned 59 = .ok (.ifCond .eq 116, 3) := by decide +kernel
theorem dX7_returned_62 : decode cX7_returned 62 = .ok (.aload_n 0, 1) := by decide +kernel
theorem dX7_returned_63 : decode cX7_returned 63 = .ok (.getfield 16, 3) := by decide +kernel
theorem dX7_returned_66 : decode cX7_returned 66 = .ok (.iload_n 3, 1) := by decide +kernel
theorem dX7_returned_67 : decode cX7_returned 67 = .ok (.baload, 1) := by decide +kernel
theorem dX7_returned_68 : decode cX7_returned 68 = .ok (.ifCond .ne 107, 3) := by decide +kernel
theorem dX7_returned_71 : decode cX7_returned 71 = .ok (.aload_n 0, 1) := by decide +kernel
theorem dX7_returned_72 : decode cX7_returned 72 = .ok (.getfield 29, 3) := by decide +kernel
theorem dX7_returned_75 : decode cX7_returned 75 = .ok (.iload_n 3, 1) := by decide +kernel
theorem dX7_returned_76 : decode cX7_returned 76 = .ok (.iaload, 1) := by decide +kernel
theorem dX7_returned_77 : decode cX7_returned 77 = .ok (.iconst 3, 1) := by decide +kernel
theorem dX7_returned_78 : decode cX7_returned 78 = .ok (.if_icmp .ge 97, 3) := by decide +kernel
theorem dX7_returned_81 : decode cX7_returned 81 = .ok (.aload_n 0, 1) := by decide +kernel
theorem dX7_returned_82 : decode cX7_returned 82 = .ok (.iload_n 3, 1) := by decide +kernel
theorem dX7_returned_83 : decode cX7_returned 83 = .ok (.invokevirtual 188, 3) := by decide +kernel
theorem dX7_returned_86 : decode cX7_returned 86 = .ok (.ifCond .eq 89, 3) := by decide +kernel
theorem dX7_returned_89 : decode cX7_returned 89 = .ok (.sipush 256, 3) := by decide +kernel
theorem dX7_returned_92 : decode cX7_returned 92 = .ok (.iload_n 3, 1) := by decide +kernel
theorem dX7_returned_93 : decode cX7_returned 93 = .ok (.imul, 1) := by decide +kernel
theorem dX7_returned_94 : decode cX7_returned 94 = .ok (.istore 4, 2) := by decide +kernel
theorem dX7_returned_96 : decode cX7_returned 96 = .ok (.iload 4, 2) := by decide +kernel
theorem dX7_returned_98 : decode cX7_returned 98 = .ok (.sipush 256, 3) := by decide +kernel
theorem dX7_returned_101 : decode cX7_returned 101 = .ok (.iload_n 3, 1) := by decide +kernel
theorem dX7_returned_102 : decode cX7_returned 102 = .ok (.imul, 1) := by decide +kernel
theorem dX7_returned_103 : decode cX7_returned 103 = .ok (.sipush 256, 3) := by decide +kernel
theorem dX7_returned_106 : decode cX7_returned 106 = .ok (.iadd, 1) := by decide +kernel
theorem dX7_returned_107 : decode cX7_returned 107 = .ok (.if_icmp .ge 51, 3) := by decide +kernel
theorem dX7_returned_110 : decode cX7_returned 110 = .ok (.aload_n 0, 1) := by decide +kernel
theorem dX7_returned_111 : decode cX7_returned 111 = .ok (.getfield 20, 3) := by decide +kernel
theorem dX7_returned_114 : decode cX7_returned 114 = .ok (.iload 4, 2) := by decide +kernel
theorem dX7_returned_116 : decode cX7_returned 116 = .ok (.aload_n 0, 1) := by decide +kernel
theorem dX7_returned_117 : decode cX7_returned 117 = .ok (.getfield 35, 3) := by decide +kernel
theorem dX7_returned_120 : decode cX7_returned 120 = .ok (.iload 4, 2) := by decide +kernel
theorem dX7_returned_122 : decode cX7_returned 122 = .ok (.baload, 1) := by decide +kernel
theorem dX7_returned_123 : decode cX7_returned 123 = .ok (.bastore, 1) := by decide +kernel
theorem dX7_returned_124 : decode cX7_returned 124 = .ok (.aload_n 0, 1) := by decide +kernel
theorem dX7_returned_125 : decode cX7_returned 125 = .ok (.getfield 23, 3) := by decide +kernel
theorem dX7_returned_128 : decode cX7_returned 128 = .ok (.iload 4, 2) := by decide +kernel
theorem dX7_returned_130 : decode cX7_returned 130 = .ok (.aload_n 0, 1) := by decide +kernel
theorem dX7_returned_131 : decode cX7_returned 131 = .ok (.getfield 38, 3) := by decide +kernel
theorem dX7_returned_134 : decode cX7_returned 134 = .ok (.iload 4, 2) := by decide +kernel
theorem dX7_returned_136 : decode cX7_returned 136 = .ok (.baload, 1) := by decide +kernel
theorem dX7_returned_137 : decode cX7_returned 137 = .ok (.bastore, 1) := by decide +kernel
theorem dX7_returned_138 : decode cX7_returned 138 = .ok (.aload_n 0, 1) := by decide +kernel
theorem dX7_returned_139 : decode cX7_returned 139 = .ok (.getfield 26, 3) := by decide +kernel
theorem dX7_returned_142 : decode cX7_returned 142 = .ok (.iload 4, 2) := by decide +kernel
theorem dX7_returned_144 : decode cX7_returned 144 = .ok (.aload_n 0, 1) := by decide +kernel
theorem dX7_returned_145 : decode cX7_returned 145 = .ok (.getfield 41, 3) := by decide +kernel
theorem dX7_returned_148 : decode cX7_returned 148 = .ok (.iload 4, 2) := by decide +kernel
theorem dX7_returned_150 : decode cX7_returned 150 = .ok (.iaload, 1) := by decide +kernel
theorem dX7_returned_151 : decode cX7_returned 151 = .ok (.iastore, 1) := by decide +kernel
theorem dX7_returned_152 : decode cX7_returned 152 = .ok (.iinc 4 1, 3) := by decide +kernel
theorem dX7_returned_155 : decode cX7_returned 155 = .ok (.goto (-59), 3) := by decide +kernel
theorem dX7_returned_158 : decode cX7_returned 158 = .ok (.aload_n 0, 1) := by decide +kernel
theorem dX7_returned_159 : decode cX7_returned 159 = .ok (.getfield 16, 3) := by decide +kernel
theorem dX7_returned_162 : decode cX7_returned 162 = .ok (.iload_n 3, 1) := by decide +kernel
theorem dX7_returned_163 : decode cX7_returned 163 = .ok (.iconst 1, 1) := by decide +kernel
theorem dX7_returned_164 : decode cX7_returned 164 = .ok (.bastore, 1) := by decide +kernel
theorem dX7_returned_165 : decode cX7_returned 165 = .ok (.aload_n 0, 1) := by decide +kernel
theorem dX7_returned_166 : decode cX7_returned 166 = .ok (.getfield 32, 3) := by decide +kernel
theorem dX7_returned_169 : decode cX7_returned 169 = .ok (.iload_n 3, 1) := by decide +kernel
theorem dX7_returned_170 : decode cX7_returned 170 = .ok (.iconst 0, 1) := by decide +kernel
theorem dX7_returned_171 : decode cX7_returned 171 = .ok (.bastore, 1) := by decide +kernel
theorem dX7_returned_172 : decode cX7_returned 172 = .ok (.iinc 2 1, 3) := by decide +kernel
theorem dX7_returned_175 : decode cX7_returned 175 = .ok (.iinc 3 1, 3) := by decide +kernel
theorem dX7_returned_178 : decode cX7_returned 178 = .ok (.goto (-133), 3) := by decide +kernel
theorem dX7_returned_181 : decode cX7_returned 181 = .ok (.aload_n 0, 1) := by decide +kernel
theorem dX7_returned_182 : decode cX7_returned 182 = .ok (.dup, 1) := by decide +kernel
theorem dX7_returned_183 : decode cX7_returned 183 = .ok (.getfield 191, 3) := by decide +kernel
theorem dX7_returned_186 : decode cX7_returned 186 = .ok (.iload_n 2, 1) := by decide +kernel
theorem dX7_returned_187 : decode cX7_returned 187 = .ok (.iadd, 1) := by decide +kernel
theorem dX7_returned_188 : decode cX7_returned 188 = .ok (.putfield 191, 3) := by decide +kernel
theorem dX7_returned_191 : decode cX7_returned 191 = .ok (.iload_n 1, 1) := by decide +kernel
theorem dX7_returned_192 : decode cX7_returned 192 = .ok (.bipush 100, 2) := by decide +kernel
theorem dX7_returned_194 : decode cX7_returned 194 = .ok (.iload_n 2, 1) := by decide +kernel
theorem dX7_returned_195 : decode cX7_returned 195 = .ok (.imul, 1) := by decide +kernel
theorem dX7_returned_196 : decode cX7_returned 196 = .ok (.iadd, 1) := by decide +kernel
theorem dX7_returned_197 : decode cX7_returned 197 = .ok (.ireturn, 1) := by decide +kernel
theorem dX7_restore_0 : decode cX7_restore 0 = .ok (.aload_n 0, 1) := by decide +kernel
theorem dX7_restore_1 : decode cX7_restore 1 = .ok (.iconst 0, 1) := by decide +kernel
theorem dX7_restore_2 : decode cX7_restore 2 = .ok (.putfield 71, 3) := by decide +kernel
theorem dX7_restore_5 : decode cX7_restore 5 = .ok (.iload_n 1, 1) := by decide +kernel
theorem dX7_restore_6 : decode cX7_restore 6 = .ok (.iconst 0, 1) := by decide +kernel
theorem dX7_restore_7 : decode cX7_restore 7 = .ok (.aload_n 0, 1) := by decide +kernel
theorem dX7_restore_8 : decode cX7_restore 8 = .ok (.getfield 185, 3) := by decide +kernel
theorem dX7_restore_11 : decode cX7_restore 11 = .ok (.iconst 1, 1) := by decide +kernel
theorem dX7_restore_12 : decode cX7_restore 12 = .ok (.isub, 1) := by decide +kernel
theorem dX7_restore_13 : decode cX7_restore 13 = .ok (.invokestatic 78, 3) := by decide +kernel
theorem dX7_restore_16 : decode cX7_restore 16 = .ok (.ifCond .ne 5, 3) := by decide +kernel
theorem dX7_restore_19 : decode cX7_restore 19 = .ok (.iconst (-1), 1) := by decide +kernel
theorem dX7_restore_20 : decode cX7_restore 20 = .ok (.ireturn, 1) := by decide +kernel
theorem dX7_restore_21 : decode cX7_restore 21 = .ok (.iconst 0, 1) := by decide +kernel
theorem dX7_restore_22 : decode cX7_restore 22 = .ok (.istore_n 2, 1) := by decide +kernel
theorem dX7_restore_23 : decode cX7_restore 23 = .ok (.iload_n 2, 1) := by decide +kernel
theorem dX7_restore_24 : decode cX7_restore 24 = .ok (.sipush 256, 3) := by decide +kernel
theorem dX7_restore_27 : decode cX7_restore 27 = .ok (.if_icmp .ge 27, 3) := by decide +kernel
theorem dX7_restore_30 : decode cX7_restore 30 = .ok (.aload_n 0, 1) := by decide +kernel
theorem dX7_restore_31 : decode cX7_restore 31 = .ok (.getfield 50, 3) := by decide +kernel
theorem dX7_restore_34 : decode cX7_restore 34 = .ok (.iload_n 2, 1) := by decide +kernel
theorem dX7_restore_35 : decode cX7_restore 35 = .ok (.aload_n 0, 1) := by decide +kernel
theorem dX7_restore_36 : decode cX7_restore 36 = .ok (.getfield 44, 3) := by decide +kernel
theorem dX7_restore_39 : decode cX7_restore 39 = .ok (.sipush 256, 3) := by decide +kernel
theorem dX7_restore_42 : decode cX7_restore 42 = .ok (.iload_n 1, 1) := by decide +kernel
theorem dX7_restore_43 : decode cX7_restore 43 = .ok (.imul, 1) := by decide +kernel
theorem dX7_restore_44 : decode cX7_restore 44 = .ok (.iload_n 2, 1) := by decide +kernel
theorem dX7_restore_45 : decode cX7_restore 45 = .ok (.iadd, 1) := by decide +kernel
theorem dX7_restore_46 : decode cX7_restore 46 = .ok (.iaload, 1) := by decide +kernel
theorem dX7_restore_47 : decode cX7_restore 47 = .ok (.iastore, 1) := by decide +kernel
theorem dX7_restore_48 : decode cX7_restore 48 = .ok (.iinc 2 1, 3) := by decide +kernel
theorem dX7_restore_51 : decode cX7_restore 51 = .ok (.goto (-28), 3) := by decide +kernel
theorem dX7_restore_54 : decode cX7_restore 54 = .ok (.aload_n 0, 1) := by decide +kernel
theorem dX7_restore_55 : decode cX7_restore 55 = .ok (.invokevirtual 194, 3) := by decide +kernel
theorem dX7_restore_58 : decode cX7_restore 58 = .ok (.ireturn, 1) := by decide +kernel
theorem dX7_undo_0 : decode cX7_undo 0 = .ok (.aload_n 0, 1) := by decide +kernel
theorem dX7_undo_1 : decode cX7_undo 1 = .ok (.iconst 0, 1) := by decide +kernel
theorem dX7_undo_2 : decode cX7_undo 2 = .ok (.putfield 71, 3) := by decide +kernel
theorem dX7_undo_5 : decode cX7_undo 5 = .ok (.aload_n 0, 1) := by decide +kernel
theorem dX7_undo_6 : decode cX7_undo 6 = .ok (.getfield 96, 3) := by decide +kernel
theorem dX7_undo_9 : decode cX7_undo 9 = .ok (.ifCond .ne 6, 3) := by decide +kernel
theorem dX7_undo_12 : decode cX7_undo 12 = .ok (.bipush (-3), 2) := by decide +kernel
theorem dX7_undo_14 : decode cX7_undo 14 = .ok (.ireturn, 1) := by decide +kernel
theorem dX7_undo_15 : decode cX7_undo 15 = .ok (.aload_n 0, 1) := by decide +kernel
theorem dX7_undo_16 : decode cX7_undo 16 = .ok (.dup, 1) := by decide +kernel
theorem dX7_undo_17 : decode cX7_undo 17 = .ok (.getfield 96, 3) := by decide +kernel
theorem dX7_undo_20 : decode cX7_undo 20 = .ok (.iconst 1, 1) := by decide +kernel
theorem dX7_undo_21 : decode cX7_undo 21 = .ok (.isub, 1) := by decide +kernel
theorem dX7_undo_22 : decode cX7_undo 22 = .ok (.putfield 96, 3) := by decide +kernel
theorem dX7_undo_25 : decode cX7_undo 25 = .ok (.iconst 0, 1) := by decide +kernel
theorem dX7_undo_26 : decode cX7_undo 26 = .ok (.istore_n 1, 1) := by decide +kernel
theorem dX7_undo_27 : decode cX7_undo 27 = .ok (.iload_n 1, 1) := by decide +kernel
theorem dX7_undo_28 : decode cX7_undo 28 = .ok (.sipush 256, 3) := by decide +kernel
theorem dX7_undo_31 : decode cX7_undo 31 = .ok (.if_icmp .ge 30, 3) := by decide +kernel
theorem dX7_undo_34 : decode cX7_undo 34 = .ok (.aload_n 0, 1) := by decide +kernel
theorem dX7_undo_35 : decode cX7_undo 35 = .ok (.getfield 50, 3) := by decide +kernel
theorem dX7_undo_38 : decode cX7_undo 38 = .ok (.iload_n 1, 1) := by decide +kernel
theorem dX7_undo_39 : decode cX7_undo 39 = .ok (.aload_n 0, 1) := by decide +kernel
theorem dX7_undo_40 : decode cX7_undo 40 = .ok (.getfield 47, 3) := by decide +kernel
theorem dX7_undo_43 : decode cX7_undo 43 = .ok (.sipush 256, 3) := by decide +kernel
theorem dX7_undo_46 : decode cX7_undo 46 = .ok (.aload_n 0, 1) := by decide +kernel
theorem dX7_undo_47 : decode cX7_undo 47 = .ok (.getfield 96, 3) := by decide +kernel
theorem dX7_undo_50 : decode cX7_undo 50 = .ok (.imul, 1) := by decide +kernel
theorem dX7_undo_51 : decode cX7_undo 51 = .ok (.iload_n 1, 1) := by decide +kernel
theorem dX7_undo_52 : decode cX7_undo 52 = .ok (.iadd, 1) := by decide +kernel
theorem dX7_undo_53 : decode cX7_undo 53 = .ok (.iaload, 1) := by decide +kernel
theorem dX7_undo_54 : decode cX7_undo 54 = .ok (.iastore, 1) := by decide +kernel
theorem dX7_undo_55 : decode cX7_undo 55 = .ok (.iinc 1 1, 3) := by decide +kernel
theorem dX7_undo_58 : decode cX7_undo 58 = .ok (.goto (-31), 3) := by decide +kernel
theorem dX7_undo_61 : decode cX7_undo 61 = .ok (.aload_n 0, 1) := by decide +kernel
theorem dX7_undo_62 : decode cX7_undo 62 = .ok (.invokevirtual 194, 3) := by decide +kernel
theorem dX7_undo_65 : decode cX7_undo 65 = .ok (.ireturn, 1) := by decide +kernel
theorem dX7_share_0 : decode cX7_share 0 = .ok (.aload_n 0, 1) := by decide +kernel
theorem dX7_share_1 : decode cX7_share 1 = .ok (.aload_n 0, 1) := by decide +kernel
theorem dX7_share_2 : decode cX7_share 2 = .ok (.getfield 181, 3) := by decide +kernel
theorem dX7_share_5 : decode cX7_share 5 = .ok (.lconst 0, 1) := by decide +kernel
theorem dX7_share_6 : decode cX7_share 6 = .ok (.lcmp, 1) := by decide +kernel
theorem dX7_share_7 : decode cX7_share 7 = .ok (.ifCond .ne 7, 3) := by decide +kernel
theorem dX7_share_10 : decode cX7_share 10 = .ok (.iconst 1, 1) := by decide +kernel
theorem dX7_share_11 : decode cX7_share 11 = .ok (.goto 4, 3) := by decide +kernel
theorem dX7_share_14 : decode cX7_share 14 = .ok (.iconst 0, 1) := by decide +kernel
theorem dX7_share_15 : decode cX7_share 15 = .ok (.putfield 71, 3) := by decide +kernel
theorem dX7_share_18 : decode cX7_share 18 = .ok (.aload_n 0, 1) := by decide +kernel
theorem dX7_share_19 : decode cX7_share 19 = .ok (.getfield 71, 3) := by decide +kernel
theorem dX7_share_22 : decode cX7_share 22 = .ok (.ifCond .ne 16, 3) := by decide +kernel
theorem dX7_share_25 : decode cX7_share 25 = .ok (.aload_n 0, 1) := by decide +kernel
theorem dX7_share_26 : decode cX7_share 26 = .ok (.getfield 177, 3) := by decide +kernel
theorem dX7_share_29 : decode cX7_share 29 = .ok (.aload_n 0, 1) := by decide +kernel
theorem dX7_share_30 : decode cX7_share 30 = .ok (.getfield 181, 3) := by decide +kernel
theorem dX7_share_33 : decode cX7_share 33 = .ok (.ldiv, 1) := by decide +kernel
theorem dX7_share_34 : decode cX7_share 34 = .ok (.l2i, 1) := by decide +kernel
theorem dX7_share_35 : decode cX7_share 35 = .ok (.goto 4, 3) := by decide +kernel
theorem dX7_share_38 : decode cX7_share 38 = .ok (.iconst 0, 1) := by decide +kernel
theorem dX7_share_39 : decode cX7_share 39 = .ok (.ireturn, 1) := by decide +kernel
theorem dX7_count_0 : decode cX7_count 0 = .ok (.aload_n 0, 1) := by decide +kernel
theorem dX7_count_1 : decode cX7_count 1 = .ok (.iconst 0, 1) := by decide +kernel
theorem dX7_count_2 : decode cX7_count 2 = .ok (.putfield 71, 3) := by decide +kernel
theorem dX7_count_5 : decode cX7_count 5 = .ok (.iconst 0, 1) := by decide +kernel
theorem dX7_count_6 : decode cX7_count 6 = .ok (.istore_n 2, 1) := by decide +kernel
theorem dX7_count_7 : decode cX7_count 7 = .ok (.iconst 0, 1) := by decide +kernel
theorem dX7_count_8 : decode cX7_count 8 = .ok (.istore_n 3, 1) := by decide +kernel
theorem dX7_count_9 : decode cX7_count 9 = .ok (.iconst 0, 1) := by decide +kernel
theorem dX7_count_10 : decode cX7_count 10 = .ok (.istore 4, 2) := by decide +kernel
theorem dX7_count_12 : decode cX7_count 12 = .ok (.iload 4, 2) := by decide +kernel
theorem dX7_count_14 : decode cX7_count 14 = .ok (.aload_n 0, 1) := by decide +kernel
theorem dX7_count_15 : decode cX7_count 15 = .ok (.getfield 75, 3) := by decide +kernel
theorem dX7_count_18 : decode cX7_count 18 = .ok (.if_icmp .ge 46, 3) := by decide +kernel
theorem dX7_count_21 : decode cX7_count 21 = .ok (.iload_n 2, 1) := by decide +kernel
theorem dX7_count_22 : decode cX7_count 22 = .ok (.aload_n 0, 1) := by decide +kernel
theorem dX7_count_23 : decode cX7_count 23 = .ok (.getfield 16, 3) := by decide +kernel
theorem dX7_count_26 : decode cX7_count 26 = .ok (.iload 4, 2) := by decide +kernel
theorem dX7_count_28 : decode cX7_count 28 = .ok (.baload, 1) := by decide +kernel
theorem dX7_count_29 : decode cX7_count 29 = .ok (.ifCond .eq 7, 3) := by decide +kernel
theorem dX7_count_32 : decode cX7_count 32 = .ok (.iconst 1, 1) := by decide +kernel
theorem dX7_count_33 : decode cX7_count 33 = .ok (.goto 4, 3) := by decide +kernel
theorem dX7_count_36 : decode cX7_count 36 = .ok (.iconst 0, 1) := by decide +kernel
theorem dX7_count_37 : decode cX7_count 37 = .ok (.iadd, 1) := by decide +kernel
theorem dX7_count_38 : decode cX7_count 38 = .ok (.istore_n 2, 1) := by decide +kernel
theorem dX7_count_39 : decode cX7_count 39 = .ok (.iload_n 3, 1) := by decide +kernel
theorem dX7_count_40 : decode cX7_count 40 = .ok (.aload_n 0, 1) := by decide +kernel
theorem dX7_count_41 : decode cX7_count 41 = .ok (.getfield 29, 3) := by decide +kernel
theorem dX7_count_44 : decode cX7_count 44 = .ok (.iload 4, 2) := by decide +kernel
theorem dX7_count_46 : decode cX7_count 46 = .ok (.iaload, 1) := by decide +kernel
theorem dX7_count_47 : decode cX7_count 47 = .ok (.iconst 3, 1) := by decide +kernel
theorem dX7_count_48 : decode cX7_count 48 = .ok (.if_icmp .lt 7, 3) := by decide +kernel
theorem dX7_count_51 : decode cX7_count 51 = .ok (.iconst 1, 1) := by decide +kernel
theorem dX7_count_52 : decode cX7_count 52 = .ok (.goto 4, 3) := by decide +kernel
theorem dX7_count_55 : decode cX7_count 55 = .ok (.iconst 0, 1) := by decide +kernel
theorem dX7_count_56 : decode cX7_count 56 = .ok (.iadd, 1) := by decide +kernel
theorem dX7_count_57 : decode cX7_count 57 = .ok (.istore_n 3, 1) := by decide +kernel
theorem dX7_count_58 : decode cX7_count 58 = .ok (.iinc 4 1, 3) := by decide +kernel
theorem dX7_count_61 : decode cX7_count 61 = .ok (.goto (-49), 3) := by decide +kernel
theorem dX7_count_64 : decode cX7_count 64 = .ok (.iload_n 1, 1) := by decide +kernel
theorem dX7_count_65 : decode cX7_count 65 = .ok (.tableswitch 90 0 8 #[51, 56, 58, 63, 68, 73, 78, 83, 88], 51) := by decide +kernel
theorem dX7_count_116 : decode cX7_count 116 = .ok (.aload_n 0, 1) := by decide +kernel
theorem dX7_count_117 : decode cX7_count 117 = .ok (.getfield 75, 3) := by decide +kernel
theorem dX7_count_120 : decode cX7_count 120 = .ok (.ireturn, 1) := by decide +kernel
theorem dX7_count_121 : decode cX7_count 121 = .ok (.iload_n 2, 1) := by decide +kernel
theorem dX7_count_122 : decode cX7_count 122 = .ok (.ireturn, 1) := by decide +kernel
theorem dX7_count_123 : decode cX7_count 123 = .ok (.aload_n 0, 1) := by decide +kernel
theorem dX7_count_124 : decode cX7_count 124 = .ok (.getfield 185, 3) := by decide +kernel
theorem dX7_count_127 : decode cX7_count 127 = .ok (.ireturn, 1) := by decide +kernel
theorem dX7_count_128 : decode cX7_count 128 = .ok (.aload_n 0, 1) := by decide +kernel
theorem dX7_count_129 : decode cX7_count 129 = .ok (.getfield 96, 3) := by decide +kernel
theorem dX7_count_132 : decode cX7_count 132 = .ok (.ireturn, 1) := by decide +kernel
theorem dX7_count_133 : decode cX7_count 133 = .ok (.aload_n 0, 1) := by decide +kernel
theorem dX7_count_134 : decode cX7_count 134 = .ok (.getfield 85, 3) := by decide +kernel
theorem dX7_count_137 : decode cX7_count 137 = .ok (.ireturn, 1) := by decide +kernel
theorem dX7_count_138 : decode cX7_count 138 = .ok (.aload_n 0, 1) := by decide +kernel
theorem dX7_count_139 : decode cX7_count 139 = .ok (.getfield 124, 3) := by decide +kernel
theorem dX7_count_142 : decode cX7_count 142 = .ok (.ireturn, 1) := by decide +kernel
theorem dX7_count_143 : decode cX7_count 143 = .ok (.aload_n 0, 1) := by decide +kernel
theorem dX7_count_144 : decode cX7_count 144 = .ok (.getfield 82, 3) := by decide +kernel
theorem dX7_count_147 : decode cX7_count 147 = .ok (.ireturn, 1) := by decide +kernel
theorem dX7_count_148 : decode cX7_count 148 = .ok (.aload_n 0, 1) := by decide +kernel
theorem dX7_count_149 : decode cX7_count 149 = .ok (.getfield 191, 3) := by decide +kernel
theorem dX7_count_152 : decode cX7_count 152 = .ok (.ireturn, 1) := by decide +kernel
theorem dX7_count_153 : decode cX7_count 153 = .ok (.iload_n 3, 1) := by decide +kernel
theorem dX7_count_154 : decode cX7_count 154 = .ok (.ireturn, 1) := by decide +kernel
theorem dX7_count_155 : decode cX7_count 155 = .ok (.bipush (-2), 2) := by decide +kernel
theorem dX7_count_157 : decode cX7_count 157 = .ok (.ireturn, 1) := by decide +kernel
theorem dX7_clear_0 : decode cX7_clear 0 = .ok (.aload_n 0, 1) := by decide +kernel
theorem dX7_clear_1 : decode cX7_clear 1 = .ok (.iconst 0, 1) := by decide +kernel
theorem dX7_clear_2 : decode cX7_clear 2 = .ok (.putfield 71, 3) := by decide +kernel
theorem dX7_clear_5 : decode cX7_clear 5 = .ok (.aload_n 0, 1) := by decide +kernel
theorem dX7_clear_6 : decode cX7_clear 6 = .ok (.getfield 75, 3) := by decide +kernel
theorem dX7_clear_9 : decode cX7_clear 9 = .ok (.istore_n 1, 1) := by decide +kernel
theorem dX7_clear_10 : decode cX7_clear 10 = .ok (.aload_n 0, 1) := by decide +kernel
theorem dX7_clear_11 : decode cX7_clear 11 = .ok (.iconst 0, 1) := by decide +kernel
theorem dX7_clear_12 : decode cX7_clear 12 = .ok (.putfield 75, 3) := by decide +kernel
theorem dX7_clear_15 : decode cX7_clear 15 = .ok (.aload_n 0, 1) := by decide +kernel
theorem dX7_clear_16 : decode cX7_clear 16 = .ok (.iconst 0, 1) := by decide +kernel
theorem dX7_clear_17 : decode cX7_clear 17 = .ok (.putfield 185, 3) := by decide +kernel
theorem dX7_clear_20 : decode cX7_clear 20 = .ok (.aload_n 0, 1) := by decide +kernel
theorem dX7_clear_21 : decode cX7_clear 21 = .ok (.iconst 0, 1) := by decide +kernel
theorem dX7_clear_22 : decode cX7_clear 22 = .ok (.putfield 96, 3) := by decide +kernel
theorem dX7_clear_25 : decode cX7_clear 25 = .ok (.aload_n 0, 1) := by decide +kernel
theorem dX7_clear_26 : decode cX7_clear 26 = .ok (.iconst 0, 1) := by decide +kernel
theorem dX7_clear_27 : decode cX7_clear 27 = .ok (.putfield 85, 3) := by decide +kernel
theorem dX7_clear_30 : decode cX7_clear 30 = .ok (.aload_n 0, 1) := by decide +kernel
theorem dX7_clear_31 : decode cX7_clear 31 = .ok (.iconst 0, 1) := by decide +kernel
theorem dX7_clear_32 : decode cX7_clear 32 = .ok (.putfield 124, 3) := by decide +kernel
theorem dX7_clear_35 : decode cX7_clear 35 = .ok (.aload_n 0, 1) := by decide +kernel
theorem dX7_clear_36 : decode cX7_clear 36 = .ok (.iconst 0, 1) := by decide +kernel
theorem dX7_clear_37 : decode cX7_clear 37 = .ok (.putfield 82, 3) := by decide +kernel
theorem dX7_clear_40 : decode cX7_clear 40 = .ok (.aload_n 0, 1) := by decide +kernel
theorem dX7_clear_41 : decode cX7_clear 41 = .ok (.iconst 0, 1) := by decide +kernel
theorem dX7_clear_42 : decode cX7_clear 42 = .ok (.putfield 191, 3) := by decide +kernel
theorem dX7_clear_45 : decode cX7_clear 45 = .ok (.aload_n 0, 1) := by decide +kernel
theorem dX7_clear_46 : decode cX7_clear 46 = .ok (.lconst 0, 1) := by decide +kernel
theorem dX7_clear_47 : decode cX7_clear 47 = .ok (.putfield 177, 3) := by decide +kernel
theorem dX7_clear_50 : decode cX7_clear 50 = .ok (.aload_n 0, 1) := by decide +kernel
theorem dX7_clear_51 : decode cX7_clear 51 = .ok (.lconst 0, 1) := by decide +kernel
theorem dX7_clear_52 : decode cX7_clear 52 = .ok (.putfield 181, 3) := by decide +kernel
theorem dX7_clear_55 : decode cX7_clear 55 = .ok (.iconst 0, 1) := by decide +kernel
theorem dX7_clear_56 : decode cX7_clear 56 = .ok (.istore_n 2, 1) := by decide +kernel
theorem dX7_clear_57 : decode cX7_clear 57 = .ok (.iload_n 2, 1) := by decide +kernel
theorem dX7_clear_58 : decode cX7_clear 58 = .ok (.sipush 256, 3) := by decide +kernel
theorem dX7_clear_61 : decode cX7_clear 61 = .ok (.if_icmp .ge 16, 3) := by decide +kernel
theorem dX7_clear_64 : decode cX7_clear 64 = .ok (.aload_n 0, 1) := by decide +kernel
theorem dX7_clear_65 : decode cX7_clear 65 = .ok (.getfield 7, 3) := by decide +kernel
theorem dX7_clear_68 : decode cX7_clear 68 = .ok (.iload_n 2, 1) := by decide +kernel
theorem dX7_clear_69 : decode cX7_clear 69 = .ok (.iconst 0, 1) := by decide +kernel
theorem dX7_clear_70 : decode cX7_clear 70 = .ok (.iastore, 1) := by decide +kernel
theorem dX7_clear_71 : decode cX7_clear 71 = .ok (.iinc 2 1, 3) := by decide +kernel
theorem dX7_clear_74 : decode cX7_clear 74 = .ok (.goto (-17), 3) := by decide +kernel
theorem dX7_clear_77 : decode cX7_clear 77 = .ok (.iconst 0, 1) := by decide +kernel
theorem dX7_clear_78 : decode cX7_clear 78 = .ok (.istore_n 2, 1) := by decide +kernel
theorem dX7_clear_79 : decode cX7_clear 79 = .ok (.iload_n 2, 1) := by decide +kernel
theorem dX7_clear_80 : decode cX7_clear 80 = .ok (.bipush 9, 2) := by decide +kernel
theorem dX7_clear_82 : decode cX7_clear 82 = .ok (.if_icmp .ge 16, 3) := by decide +kernel
theorem dX7_clear_85 : decode cX7_clear 85 = .ok (.aload_n 0, 1) := by decide +kernel
theorem dX7_clear_86 : decode cX7_clear 86 = .ok (.getfield 53, 3) := by decide +kernel
theorem dX7_clear_89 : decode cX7_clear 89 = .ok (.iload_n 2, 1) := by decide +kernel
theorem dX7_clear_90 : decode cX7_clear 90 = .ok (.iconst 0, 1) := by decide +kernel
theorem dX7_clear_91 : decode cX7_clear 91 = .ok (.iastore, 1) := by decide +kernel
theorem dX7_clear_92 : decode cX7_clear 92 = .ok (.iinc 2 1, 3) := by decide +kernel
theorem dX7_clear_95 : decode cX7_clear 95 = .ok (.goto (-16), 3) := by decide +kernel
theorem dX7_clear_98 : decode cX7_clear 98 = .ok (.iload_n 1, 1) := by decide +kernel
theorem dX7_clear_99 : decode cX7_clear 99 = .ok (.ireturn, 1) := by decide +kernel
end
section
def gw : List Cond := lw_tbl.filter goodWord
theorem gw_t {w : Cond} (i : Nat) (h : tables_1[i]? = some w) (hg : goodWord w = true) : w ∈ gw := List.mem_filter.mpr ⟨List.mem_append_right _ (List.mem_of_getElem? h), hg⟩
theorem gw_s {w : Cond} (i : Nat) (h : (k2_sels lw_privs)[i]? = some w) (hg : goodWord w = true) : w ∈ gw := List.mem_filter.mpr ⟨List.mem_append_left _ (List.mem_of_getElem? h), hg⟩
theorem gw_good {w : Cond} (h : w ∈ gw) : (w.onTables && w.keeps) = true ∨ ∃ ty, w = .arrayClass ty := good_of_word (List.mem_filter.mp h).2
theorem gw_in {big : List Cond} (hb : ∀ w ∈ gw, w ∈ big) {y : MethodName} {cc : ByteArray} {n : Nat} {r : Option FieldType} (hc : Cond.code y cc n r ∈ gw) : GoodIn big (Cond.code y cc n r :: gw) := fun w hw => by
  rcases List.mem_cons.mp hw with h | h
  · subst h; exact ⟨hb _ hc, gw_good hc⟩
  · exact ⟨hb _ h, gw_good h⟩
theorem w_0 : Cond.initialized RL ∈ gw := gw_t 0 (by decide +kernel) (by decide +kernel)
theorem w_1 : Cond.initialized RX6 ∈ gw := gw_t 1 (by decide +kernel) (by decide +kernel)
theorem w_2 : Cond.initialized RX1 ∈ gw := gw_t 2 (by decide +kernel) (by decide +kernel)
theorem w_3 : Cond.initialized RX4 ∈ gw := gw_t 3 (by decide +kernel) (by decide +kernel)
theorem w_4 : Cond.initialized RX2 ∈ gw := gw_t 4 (by decide +kernel) (by decide +kernel)
theorem w_5 : Cond.initialized RX3 ∈ gw := gw_t 5 (by decide +kernel) (by decide +kernel)
theorem w_6 : Cond.initialized RX5 ∈ gw := gw_t 6 (by decide +kernel) (by decide +kernel)
theorem w_7 : Cond.initialized RX0 ∈ gw := gw_t 7 (by decide +kernel) (by decide +kernel)
theorem w_8 : Cond.initialized RX7 ∈ gw := gw_t 8 (by decide +kernel) (by decide +kernel)
theorem w_9 : Cond.initialized "java/lang/System" ∈ gw := gw_t 9 (by decide +kernel) (by decide +kernel)
theorem w_10 : Cond.initialized "java/lang/Throwable" ∈ gw := gw_t 10 (by decide +kernel) (by decide +kernel)
theorem w_11 : Cond.initialized "java/lang/Exception" ∈ gw := gw_t 11 (by decide +kernel) (by decide +kernel)
theorem w_12 : Cond.initialized "java/lang/RuntimeException" ∈ gw := gw_t 12 (by decide +kernel) (by decide +kernel)
theorem w_13 : Cond.initialized "java/lang/IndexOutOfBoundsException" ∈ gw := gw_t 13 (by decide +kernel) (by decide +kernel)
theorem w_14 : Cond.initialized "java/lang/ArrayIndexOutOfBoundsException" ∈ gw := gw_t 14 (by decide +kernel) (by decide +kernel)
theorem w_15 : Cond.initialized "java/lang/String" ∈ gw := gw_t 15 (by decide +kernel) (by decide +kernel)
theorem w_16 : Cond.initialized "java/lang/NullPointerException" ∈ gw := gw_t 16 (by decide +kernel) (by decide +kernel)
theorem w_17 : Cond.initialized "java/lang/Math" ∈ gw := gw_t 17 (by decide +kernel) (by decide +kernel)
theorem w_18 : Cond.initialized RJ6 ∈ gw := gw_t 18 (by decide +kernel) (by decide +kernel)
theorem w_19 : Cond.initialized "java/lang/ArithmeticException" ∈ gw := gw_t 19 (by decide +kernel) (by decide +kernel)
theorem w_20 : Cond.initialized RJ7 ∈ gw := gw_t 20 (by decide +kernel) (by decide +kernel)
theorem w_23 : Cond.methodLink RL 27 yX6_init ∈ gw := gw_t 23 (by decide +kernel) (by decide +kernel)
theorem w_24 : Cond.instanceMethod yX6_init ∈ gw := gw_t 24 (by decide +kernel) (by decide +kernel)
theorem w_25 : Cond.code yX6_init prog_1_method_1_code 2 none ∈ gw := gw_t 25 (by decide +kernel) (by decide +kernel)
theorem w_26 : Cond.methodLink RX6 1 objectInit ∈ gw := gw_t 26 (by decide +kernel) (by decide +kernel)
theorem w_27 : Cond.instanceMethod objectInit ∈ gw := gw_t 27 (by decide +kernel) (by decide +kernel)
theorem w_28 : Cond.code objectInit ⟨#[0xb1]⟩ 1 none ∈ gw := gw_t 28 (by decide +kernel) (by decide +kernel)
theorem w_31 : Cond.methodLink RX6 9 yX1_init ∈ gw := gw_t 31 (by decide +kernel) (by decide +kernel)
theorem w_32 : Cond.instanceMethod yX1_init ∈ gw := gw_t 32 (by decide +kernel) (by decide +kernel)
theorem w_33 : Cond.code yX1_init prog_3_method_1_code 1 none ∈ gw := gw_t 33 (by decide +kernel) (by decide +kernel)
theorem w_34 : Cond.methodLink RX1 3 objectInit ∈ gw := gw_t 34 (by decide +kernel) (by decide +kernel)
theorem w_35 : Cond.fieldLink RX1 9 "SelfChange$Cover" "places" "[I" ∈ gw := gw_t 35 (by decide +kernel) (by decide +kernel)
theorem w_36 : Cond.fieldLink RX4 37 "SelfChange$Cover" "places" "[I" ∈ gw := gw_t 36 (by decide +kernel) (by decide +kernel)
theorem w_37 : Cond.fieldLink RX1 15 "SelfChange$Cover" "pages" "[I" ∈ gw := gw_t 37 (by decide +kernel) (by decide +kernel)
theorem w_38 : Cond.fieldLink RX4 29 "SelfChange$Cover" "pages" "[I" ∈ gw := gw_t 38 (by decide +kernel) (by decide +kernel)
theorem w_39 : Cond.fieldLink RX6 206 "SelfChange$Cover" "pages" "[I" ∈ gw := gw_t 39 (by decide +kernel) (by decide +kernel)
theorem w_48 : Cond.methodLink RX6 18 yX4_init ∈ gw := gw_t 48 (by decide +kernel) (by decide +kernel)
theorem w_49 : Cond.instanceMethod yX4_init ∈ gw := gw_t 49 (by decide +kernel) (by decide +kernel)
theorem w_50 : Cond.code yX4_init prog_6_method_1_code 2 none ∈ gw := gw_t 50 (by decide +kernel) (by decide +kernel)
theorem w_51 : Cond.methodLink RX4 3 objectInit ∈ gw := gw_t 51 (by decide +kernel) (by decide +kernel)
theorem w_52 : Cond.fieldLink RX4 9 "SelfChange$Memory" "bytes" "[I" ∈ gw := gw_t 52 (by decide +kernel) (by decide +kernel)
theorem w_53 : Cond.fieldLink RX6 88 "SelfChange$Memory" "bytes" "[I" ∈ gw := gw_t 53 (by decide +kernel) (by decide +kernel)
theorem w_54 : Cond.fieldLink RX0 104 "SelfChange$Memory" "bytes" "[I" ∈ gw := gw_t 54 (by decide +kernel) (by decide +kernel)
theorem w_55 : Cond.fieldLink RX4 15 "SelfChange$Memory" "cover" "LSelfChange$Cover;" ∈ gw := gw_t 55 (by decide +kernel) (by decide +kernel)
theorem w_56 : Cond.fieldLink RX4 23 "SelfChange$Memory" "live" "I" ∈ gw := gw_t 56 (by decide +kernel) (by decide +kernel)
theorem w_57 : Cond.fieldLink RX0 73 "SelfChange$Memory" "live" "I" ∈ gw := gw_t 57 (by decide +kernel) (by decide +kernel)
theorem w_58 : Cond.fieldLink RX6 195 "SelfChange$Memory" "live" "I" ∈ gw := gw_t 58 (by decide +kernel) (by decide +kernel)
theorem w_59 : Cond.fieldLink RX4 26 "SelfChange$Memory" "liveBefore" "I" ∈ gw := gw_t 59 (by decide +kernel) (by decide +kernel)
theorem w_60 : Cond.fieldLink RX0 68 "SelfChange$Memory" "liveBefore" "I" ∈ gw := gw_t 60 (by decide +kernel) (by decide +kernel)
theorem w_61 : Cond.fieldLink RX4 34 "SelfChange$Memory" "looks" "I" ∈ gw := gw_t 61 (by decide +kernel) (by decide +kernel)
theorem w_62 : Cond.fieldLink RX6 240 "SelfChange$Memory" "looks" "I" ∈ gw := gw_t 62 (by decide +kernel) (by decide +kernel)
theorem w_63 : Cond.fieldLink RX4 19 "SelfChange$Memory" "changes" "I" ∈ gw := gw_t 63 (by decide +kernel) (by decide +kernel)
theorem w_64 : Cond.fieldLink RX0 82 "SelfChange$Memory" "changes" "I" ∈ gw := gw_t 64 (by decide +kernel) (by decide +kernel)
theorem w_65 : Cond.fieldLink RX6 265 "SelfChange$Memory" "changes" "I" ∈ gw := gw_t 65 (by decide +kernel) (by decide +kernel)
theorem w_83 : Cond.methodLink RX6 33 yX2_init ∈ gw := gw_t 83 (by decide +kernel) (by decide +kernel)
theorem w_84 : Cond.instanceMethod yX2_init ∈ gw := gw_t 84 (by decide +kernel) (by decide +kernel)
theorem w_85 : Cond.code yX2_init prog_4_method_1_code 1 none ∈ gw := gw_t 85 (by decide +kernel) (by decide +kernel)
theorem w_86 : Cond.methodLink RX2 3 objectInit ∈ gw := gw_t 86 (by decide +kernel) (by decide +kernel)
theorem w_89 : Cond.fieldLink RX2 13 "SelfChange$Kept" "rows" "[[I" ∈ gw := gw_t 89 (by decide +kernel) (by decide +kernel)
theorem w_90 : Cond.fieldLink RX2 16 "SelfChange$Kept" "first" "I" ∈ gw := gw_t 90 (by decide +kernel) (by decide +kernel)
theorem w_91 : Cond.fieldLink RX2 20 "SelfChange$Kept" "size" "I" ∈ gw := gw_t 91 (by decide +kernel) (by decide +kernel)
theorem w_92 : Cond.fieldLink RX6 228 "SelfChange$Kept" "size" "I" ∈ gw := gw_t 92 (by decide +kernel) (by decide +kernel)
theorem w_103 : Cond.methodLink RX6 45 yX3_init ∈ gw := gw_t 103 (by decide +kernel) (by decide +kernel)
theorem w_104 : Cond.instanceMethod yX3_init ∈ gw := gw_t 104 (by decide +kernel) (by decide +kernel)
theorem w_105 : Cond.code yX3_init prog_5_method_1_code 1 none ∈ gw := gw_t 105 (by decide +kernel) (by decide +kernel)
theorem w_106 : Cond.methodLink RX3 3 objectInit ∈ gw := gw_t 106 (by decide +kernel) (by decide +kernel)
theorem w_107 : Cond.fieldLink RX3 9 "SelfChange$Member" "heads" "[I" ∈ gw := gw_t 107 (by decide +kernel) (by decide +kernel)
theorem w_108 : Cond.fieldLink RX1 31 "SelfChange$Member" "heads" "[I" ∈ gw := gw_t 108 (by decide +kernel) (by decide +kernel)
theorem w_109 : Cond.fieldLink RX6 146 "SelfChange$Member" "heads" "[I" ∈ gw := gw_t 109 (by decide +kernel) (by decide +kernel)
theorem w_110 : Cond.fieldLink RX3 15 "SelfChange$Member" "kinds" "[I" ∈ gw := gw_t 110 (by decide +kernel) (by decide +kernel)
theorem w_111 : Cond.fieldLink RX1 24 "SelfChange$Member" "kinds" "[I" ∈ gw := gw_t 111 (by decide +kernel) (by decide +kernel)
theorem w_112 : Cond.fieldLink RX0 147 "SelfChange$Member" "kinds" "[I" ∈ gw := gw_t 112 (by decide +kernel) (by decide +kernel)
theorem w_113 : Cond.fieldLink RX3 18 "SelfChange$Member" "operands" "[I" ∈ gw := gw_t 113 (by decide +kernel) (by decide +kernel)
theorem w_114 : Cond.fieldLink RX0 150 "SelfChange$Member" "operands" "[I" ∈ gw := gw_t 114 (by decide +kernel) (by decide +kernel)
theorem w_115 : Cond.fieldLink RX3 21 "SelfChange$Member" "headCount" "I" ∈ gw := gw_t 115 (by decide +kernel) (by decide +kernel)
theorem w_116 : Cond.fieldLink RX1 18 "SelfChange$Member" "headCount" "I" ∈ gw := gw_t 116 (by decide +kernel) (by decide +kernel)
theorem w_117 : Cond.fieldLink RX6 126 "SelfChange$Member" "headCount" "I" ∈ gw := gw_t 117 (by decide +kernel) (by decide +kernel)
theorem w_128 : Cond.methodLink RX6 50 yX5_init ∈ gw := gw_t 128 (by decide +kernel) (by decide +kernel)
theorem w_129 : Cond.instanceMethod yX5_init ∈ gw := gw_t 129 (by decide +kernel) (by decide +kernel)
theorem w_130 : Cond.code yX5_init prog_7_method_1_code 1 none ∈ gw := gw_t 130 (by decide +kernel) (by decide +kernel)
theorem w_131 : Cond.methodLink RX5 3 objectInit ∈ gw := gw_t 131 (by decide +kernel) (by decide +kernel)
theorem w_133 : Cond.methodLink RX5 11 yX3_init ∈ gw := gw_t 133 (by decide +kernel) (by decide +kernel)
theorem w_134 : Cond.fieldLink RX5 12 "SelfChange$Routine" "current" "LSelfChange$Member;" ∈ gw := gw_t 134 (by decide +kernel) (by decide +kernel)
theorem w_135 : Cond.fieldLink RX6 107 "SelfChange$Routine" "current" "LSelfChange$Member;" ∈ gw := gw_t 135 (by decide +kernel) (by decide +kernel)
theorem w_136 : Cond.fieldLink RX0 138 "SelfChange$Routine" "current" "LSelfChange$Member;" ∈ gw := gw_t 136 (by decide +kernel) (by decide +kernel)
theorem w_137 : Cond.fieldLink RX5 18 "SelfChange$Routine" "aside" "LSelfChange$Member;" ∈ gw := gw_t 137 (by decide +kernel) (by decide +kernel)
theorem w_138 : Cond.fieldLink RX5 28 "SelfChange$Routine" "hasAside" "Z" ∈ gw := gw_t 138 (by decide +kernel) (by decide +kernel)
theorem w_139 : Cond.fieldLink RX6 135 "SelfChange$Routine" "hasAside" "Z" ∈ gw := gw_t 139 (by decide +kernel) (by decide +kernel)
theorem w_140 : Cond.fieldLink RX5 21 "SelfChange$Routine" "place" "I" ∈ gw := gw_t 140 (by decide +kernel) (by decide +kernel)
theorem w_141 : Cond.fieldLink RX6 110 "SelfChange$Routine" "place" "I" ∈ gw := gw_t 141 (by decide +kernel) (by decide +kernel)
theorem w_142 : Cond.fieldLink RX0 97 "SelfChange$Routine" "place" "I" ∈ gw := gw_t 142 (by decide +kernel) (by decide +kernel)
theorem w_143 : Cond.fieldLink RX5 25 "SelfChange$Routine" "drops" "I" ∈ gw := gw_t 143 (by decide +kernel) (by decide +kernel)
theorem w_144 : Cond.fieldLink RX6 132 "SelfChange$Routine" "drops" "I" ∈ gw := gw_t 144 (by decide +kernel) (by decide +kernel)
theorem w_158 : Cond.methodLink RX6 53 yX0_init ∈ gw := gw_t 158 (by decide +kernel) (by decide +kernel)
theorem w_159 : Cond.instanceMethod yX0_init ∈ gw := gw_t 159 (by decide +kernel) (by decide +kernel)
theorem w_160 : Cond.code yX0_init prog_2_method_1_code 3 none ∈ gw := gw_t 160 (by decide +kernel) (by decide +kernel)
theorem w_161 : Cond.methodLink RX0 3 objectInit ∈ gw := gw_t 161 (by decide +kernel) (by decide +kernel)
theorem w_162 : Cond.fieldLink RX0 18 "SelfChange$Course" "memory" "LSelfChange$Memory;" ∈ gw := gw_t 162 (by decide +kernel) (by decide +kernel)
theorem w_163 : Cond.fieldLink RX6 194 "SelfChange$Course" "memory" "LSelfChange$Memory;" ∈ gw := gw_t 163 (by decide +kernel) (by decide +kernel)
theorem w_164 : Cond.fieldLink RX0 22 "SelfChange$Course" "routines" "[LSelfChange$Routine;" ∈ gw := gw_t 164 (by decide +kernel) (by decide +kernel)
theorem w_165 : Cond.fieldLink RX0 9 "SelfChange$Course" "within" "[I" ∈ gw := gw_t 165 (by decide +kernel) (by decide +kernel)
theorem w_166 : Cond.fieldLink RX0 15 "SelfChange$Course" "behindCall" "[I" ∈ gw := gw_t 166 (by decide +kernel) (by decide +kernel)
theorem w_167 : Cond.fieldLink RX0 26 "SelfChange$Course" "depth" "I" ∈ gw := gw_t 167 (by decide +kernel) (by decide +kernel)
theorem w_168 : Cond.fieldLink RX0 30 "SelfChange$Course" "deepest" "I" ∈ gw := gw_t 168 (by decide +kernel) (by decide +kernel)
theorem w_169 : Cond.fieldLink RX6 187 "SelfChange$Course" "deepest" "I" ∈ gw := gw_t 169 (by decide +kernel) (by decide +kernel)
theorem w_170 : Cond.fieldLink RX0 33 "SelfChange$Course" "a" "I" ∈ gw := gw_t 170 (by decide +kernel) (by decide +kernel)
theorem w_171 : Cond.fieldLink RX6 174 "SelfChange$Course" "a" "I" ∈ gw := gw_t 171 (by decide +kernel) (by decide +kernel)
theorem w_172 : Cond.fieldLink RX0 36 "SelfChange$Course" "b" "I" ∈ gw := gw_t 172 (by decide +kernel) (by decide +kernel)
theorem w_173 : Cond.fieldLink RX6 177 "SelfChange$Course" "b" "I" ∈ gw := gw_t 173 (by decide +kernel) (by decide +kernel)
theorem w_174 : Cond.fieldLink RX0 39 "SelfChange$Course" "place" "I" ∈ gw := gw_t 174 (by decide +kernel) (by decide +kernel)
theorem w_175 : Cond.fieldLink RX6 186 "SelfChange$Course" "place" "I" ∈ gw := gw_t 175 (by decide +kernel) (by decide +kernel)
theorem w_176 : Cond.fieldLink RX0 107 "SelfChange$Course" "kind" "I" ∈ gw := gw_t 176 (by decide +kernel) (by decide +kernel)
theorem w_177 : Cond.fieldLink RX0 110 "SelfChange$Course" "operand" "I" ∈ gw := gw_t 177 (by decide +kernel) (by decide +kernel)
theorem w_178 : Cond.fieldLink RX0 42 "SelfChange$Course" "byMembers" "I" ∈ gw := gw_t 178 (by decide +kernel) (by decide +kernel)
theorem w_179 : Cond.fieldLink RX6 162 "SelfChange$Course" "byMembers" "I" ∈ gw := gw_t 179 (by decide +kernel) (by decide +kernel)
theorem w_180 : Cond.fieldLink RX0 45 "SelfChange$Course" "walked" "I" ∈ gw := gw_t 180 (by decide +kernel) (by decide +kernel)
theorem w_181 : Cond.fieldLink RX6 168 "SelfChange$Course" "walked" "I" ∈ gw := gw_t 181 (by decide +kernel) (by decide +kernel)
theorem w_182 : Cond.fieldLink RX0 48 "SelfChange$Course" "dropped" "I" ∈ gw := gw_t 182 (by decide +kernel) (by decide +kernel)
theorem w_183 : Cond.fieldLink RX6 183 "SelfChange$Course" "dropped" "I" ∈ gw := gw_t 183 (by decide +kernel) (by decide +kernel)
theorem w_184 : Cond.fieldLink RX0 51 "SelfChange$Course" "changes" "I" ∈ gw := gw_t 184 (by decide +kernel) (by decide +kernel)
theorem w_185 : Cond.fieldLink RX6 190 "SelfChange$Course" "changes" "I" ∈ gw := gw_t 185 (by decide +kernel) (by decide +kernel)
theorem w_186 : Cond.fieldLink RX0 54 "SelfChange$Course" "answer" "I" ∈ gw := gw_t 186 (by decide +kernel) (by decide +kernel)
theorem w_187 : Cond.fieldLink RX6 171 "SelfChange$Course" "answer" "I" ∈ gw := gw_t 187 (by decide +kernel) (by decide +kernel)
theorem w_221 : Cond.fieldLink RX6 10 "SelfChange" "cover" "LSelfChange$Cover;" ∈ gw := gw_t 221 (by decide +kernel) (by decide +kernel)
theorem w_222 : Cond.fieldLink RX6 21 "SelfChange" "memory" "LSelfChange$Memory;" ∈ gw := gw_t 222 (by decide +kernel) (by decide +kernel)
theorem w_223 : Cond.fieldLink RX6 27 "SelfChange" "routines" "[LSelfChange$Routine;" ∈ gw := gw_t 223 (by decide +kernel) (by decide +kernel)
theorem w_224 : Cond.fieldLink RX6 34 "SelfChange" "kept" "LSelfChange$Kept;" ∈ gw := gw_t 224 (by decide +kernel) (by decide +kernel)
theorem w_225 : Cond.fieldLink RX6 40 "SelfChange" "snapshots" "[[I" ∈ gw := gw_t 225 (by decide +kernel) (by decide +kernel)
theorem w_226 : Cond.fieldLink RX6 56 "SelfChange" "latest" "LSelfChange$Course;" ∈ gw := gw_t 226 (by decide +kernel) (by decide +kernel)
theorem w_227 : Cond.fieldLink RX6 60 "SelfChange" "asThingsAre" "LSelfChange$Course;" ∈ gw := gw_t 227 (by decide +kernel) (by decide +kernel)
theorem w_228 : Cond.fieldLink RX6 63 "SelfChange" "walkedAlone" "LSelfChange$Course;" ∈ gw := gw_t 228 (by decide +kernel) (by decide +kernel)
theorem w_229 : Cond.fieldLink RX6 46 "SelfChange" "trial" "LSelfChange$Member;" ∈ gw := gw_t 229 (by decide +kernel) (by decide +kernel)
theorem w_230 : Cond.fieldLink RX6 92 "SelfChange" "routineCount" "I" ∈ gw := gw_t 230 (by decide +kernel) (by decide +kernel)
theorem w_231 : Cond.fieldLink RX6 215 "SelfChange" "snapshotCount" "I" ∈ gw := gw_t 231 (by decide +kernel) (by decide +kernel)
theorem w_232 : Cond.fieldLink RX6 120 "SelfChange" "madeInAll" "I" ∈ gw := gw_t 232 (by decide +kernel) (by decide +kernel)
theorem w_233 : Cond.fieldLink RX6 243 "SelfChange" "droppedInAll" "I" ∈ gw := gw_t 233 (by decide +kernel) (by decide +kernel)
theorem w_234 : Cond.fieldLink RX6 246 "SelfChange" "backInAll" "I" ∈ gw := gw_t 234 (by decide +kernel) (by decide +kernel)
theorem w_235 : Cond.fieldLink RX6 159 "SelfChange" "byMembersInAll" "I" ∈ gw := gw_t 235 (by decide +kernel) (by decide +kernel)
theorem w_236 : Cond.fieldLink RX6 165 "SelfChange" "walkedInAll" "I" ∈ gw := gw_t 236 (by decide +kernel) (by decide +kernel)
theorem w_270 : Cond.methodLink RL 33 yX6_put ∈ gw := gw_t 270 (by decide +kernel) (by decide +kernel)
theorem w_271 : Cond.instanceMethod yX6_put ∈ gw := gw_t 271 (by decide +kernel) (by decide +kernel)
theorem w_272 : Cond.selects RX6 yX6_put yX6_put ∈ gw := gw_t 272 (by decide +kernel) (by decide +kernel)
theorem w_273 : Cond.code yX6_put prog_1_method_2_code 6 (some .int) ∈ gw := gw_t 273 (by decide +kernel) (by decide +kernel)
theorem w_274 : Cond.methodLink RX6 66 yX6_isNoPlace ∈ gw := gw_t 274 (by decide +kernel) (by decide +kernel)
theorem w_275 : Cond.static yX6_isNoPlace ∈ gw := gw_t 275 (by decide +kernel) (by decide +kernel)
theorem w_276 : Cond.code yX6_isNoPlace prog_1_method_20_code 1 (some .boolean) ∈ gw := gw_t 276 (by decide +kernel) (by decide +kernel)
theorem w_277 : Cond.methodLink RX6 70 yX6_beginKeeping ∈ gw := gw_t 277 (by decide +kernel) (by decide +kernel)
theorem w_279 : Cond.instanceMethod yX6_beginKeeping ∈ gw := gw_t 279 (by decide +kernel) (by decide +kernel)
theorem w_280 : Cond.code yX6_beginKeeping prog_1_method_23_code 1 none ∈ gw := gw_t 280 (by decide +kernel) (by decide +kernel)
theorem w_281 : Cond.methodLink RX6 258 yX2_note ∈ gw := gw_t 281 (by decide +kernel) (by decide +kernel)
theorem w_282 : Cond.instanceMethod yX2_note ∈ gw := gw_t 282 (by decide +kernel) (by decide +kernel)
theorem w_283 : Cond.selects RX2 yX2_note yX2_note ∈ gw := gw_t 283 (by decide +kernel) (by decide +kernel)
theorem w_284 : Cond.code yX2_note prog_4_method_2_code 2 none ∈ gw := gw_t 284 (by decide +kernel) (by decide +kernel)
theorem w_285 : Cond.methodLink RX2 23 arraycopyName ∈ gw := gw_t 285 (by decide +kernel) (by decide +kernel)
theorem w_286 : Cond.static arraycopyName ∈ gw := gw_t 286 (by decide +kernel) (by decide +kernel)
theorem w_287 : Cond.native arraycopyName ∈ gw := gw_t 287 (by decide +kernel) (by decide +kernel)
theorem w_288 : Cond.methodLink RX6 262 yX4_beginChanges ∈ gw := gw_t 288 (by decide +kernel) (by decide +kernel)
theorem w_289 : Cond.instanceMethod yX4_beginChanges ∈ gw := gw_t 289 (by decide +kernel) (by decide +kernel)
theorem w_290 : Cond.selects RX4 yX4_beginChanges yX4_beginChanges ∈ gw := gw_t 290 (by decide +kernel) (by decide +kernel)
theorem w_291 : Cond.code yX4_beginChanges prog_6_method_2_code 1 none ∈ gw := gw_t 291 (by decide +kernel) (by decide +kernel)
theorem w_292 : Cond.methodLink RX6 73 yX4_become ∈ gw := gw_t 292 (by decide +kernel) (by decide +kernel)
theorem w_293 : Cond.instanceMethod yX4_become ∈ gw := gw_t 293 (by decide +kernel) (by decide +kernel)
theorem w_294 : Cond.selects RX4 yX4_become yX4_become ∈ gw := gw_t 294 (by decide +kernel) (by decide +kernel)
theorem w_295 : Cond.code yX4_become prog_6_method_3_code 4 none ∈ gw := gw_t 295 (by decide +kernel) (by decide +kernel)
theorem w_296 : Cond.methodLink RX6 77 yX6_endKeeping ∈ gw := gw_t 296 (by decide +kernel) (by decide +kernel)
theorem w_298 : Cond.instanceMethod yX6_endKeeping ∈ gw := gw_t 298 (by decide +kernel) (by decide +kernel)
theorem w_299 : Cond.code yX6_endKeeping prog_1_method_24_code 1 (some .int) ∈ gw := gw_t 299 (by decide +kernel) (by decide +kernel)
theorem w_300 : Cond.methodLink RX6 266 yX2_keepNoted ∈ gw := gw_t 300 (by decide +kernel) (by decide +kernel)
theorem w_301 : Cond.instanceMethod yX2_keepNoted ∈ gw := gw_t 301 (by decide +kernel) (by decide +kernel)
theorem w_302 : Cond.selects RX2 yX2_keepNoted yX2_keepNoted ∈ gw := gw_t 302 (by decide +kernel) (by decide +kernel)
theorem w_303 : Cond.code yX2_keepNoted prog_4_method_3_code 1 none ∈ gw := gw_t 303 (by decide +kernel) (by decide +kernel)
theorem w_304 : Cond.methodLink RX6 269 yX6_layDroppedAside ∈ gw := gw_t 304 (by decide +kernel) (by decide +kernel)
theorem w_306 : Cond.instanceMethod yX6_layDroppedAside ∈ gw := gw_t 306 (by decide +kernel) (by decide +kernel)
theorem w_307 : Cond.code yX6_layDroppedAside prog_1_method_26_code 3 (some .int) ∈ gw := gw_t 307 (by decide +kernel) (by decide +kernel)
theorem w_308 : Cond.methodLink RX6 275 yX4_wasDropped ∈ gw := gw_t 308 (by decide +kernel) (by decide +kernel)
theorem w_309 : Cond.instanceMethod yX4_wasDropped ∈ gw := gw_t 309 (by decide +kernel) (by decide +kernel)
theorem w_310 : Cond.selects RX4 yX4_wasDropped yX4_wasDropped ∈ gw := gw_t 310 (by decide +kernel) (by decide +kernel)
theorem w_311 : Cond.code yX4_wasDropped prog_6_method_5_code 2 (some .boolean) ∈ gw := gw_t 311 (by decide +kernel) (by decide +kernel)
theorem w_312 : Cond.methodLink RX6 278 yX1_mark ∈ gw := gw_t 312 (by decide +kernel) (by decide +kernel)
theorem w_313 : Cond.instanceMethod yX1_mark ∈ gw := gw_t 313 (by decide +kernel) (by decide +kernel)
theorem w_314 : Cond.selects RX1 yX1_mark yX1_mark ∈ gw := gw_t 314 (by decide +kernel) (by decide +kernel)
theorem w_315 : Cond.code yX1_mark prog_3_method_2_code 10 none ∈ gw := gw_t 315 (by decide +kernel) (by decide +kernel)
theorem w_317 : Cond.static yX6_lengthOf ∈ gw := gw_t 317 (by decide +kernel) (by decide +kernel)
theorem w_318 : Cond.code yX6_lengthOf prog_1_method_32_code 1 (some .int) ∈ gw := gw_t 318 (by decide +kernel) (by decide +kernel)
theorem w_319 : Cond.methodLink RX6 292 yX6_hasOperand ∈ gw := gw_t 319 (by decide +kernel) (by decide +kernel)
theorem w_320 : Cond.static yX6_hasOperand ∈ gw := gw_t 320 (by decide +kernel) (by decide +kernel)
theorem w_321 : Cond.code yX6_hasOperand prog_1_method_31_code 1 (some .boolean) ∈ gw := gw_t 321 (by decide +kernel) (by decide +kernel)
theorem w_322 : Cond.methodLink RX6 282 yX5_layAside ∈ gw := gw_t 322 (by decide +kernel) (by decide +kernel)
theorem w_323 : Cond.instanceMethod yX5_layAside ∈ gw := gw_t 323 (by decide +kernel) (by decide +kernel)
theorem w_324 : Cond.selects RX5 yX5_layAside yX5_layAside ∈ gw := gw_t 324 (by decide +kernel) (by decide +kernel)
theorem w_325 : Cond.code yX5_layAside prog_7_method_4_code 1 none ∈ gw := gw_t 325 (by decide +kernel) (by decide +kernel)
theorem w_326 : Cond.methodLink RX5 32 yX5_exchange ∈ gw := gw_t 326 (by decide +kernel) (by decide +kernel)
theorem w_328 : Cond.instanceMethod yX5_exchange ∈ gw := gw_t 328 (by decide +kernel) (by decide +kernel)
theorem w_329 : Cond.code yX5_exchange prog_7_method_7_code 2 none ∈ gw := gw_t 329 (by decide +kernel) (by decide +kernel)
theorem w_330 : Cond.methodLink RL 38 yX6_write ∈ gw := gw_t 330 (by decide +kernel) (by decide +kernel)
theorem w_331 : Cond.instanceMethod yX6_write ∈ gw := gw_t 331 (by decide +kernel) (by decide +kernel)
theorem w_332 : Cond.selects RX6 yX6_write yX6_write ∈ gw := gw_t 332 (by decide +kernel) (by decide +kernel)
theorem w_333 : Cond.code yX6_write prog_1_method_3_code 3 (some .int) ∈ gw := gw_t 333 (by decide +kernel) (by decide +kernel)
theorem w_334 : Cond.methodLink RL 51 yX6_routine ∈ gw := gw_t 334 (by decide +kernel) (by decide +kernel)
theorem w_335 : Cond.instanceMethod yX6_routine ∈ gw := gw_t 335 (by decide +kernel) (by decide +kernel)
theorem w_336 : Cond.selects RX6 yX6_routine yX6_routine ∈ gw := gw_t 336 (by decide +kernel) (by decide +kernel)
theorem w_337 : Cond.code yX6_routine prog_1_method_5_code 2 (some .int) ∈ gw := gw_t 337 (by decide +kernel) (by decide +kernel)
theorem w_338 : Cond.methodLink RX6 96 yX5_begin ∈ gw := gw_t 338 (by decide +kernel) (by decide +kernel)
theorem w_339 : Cond.instanceMethod yX5_begin ∈ gw := gw_t 339 (by decide +kernel) (by decide +kernel)
theorem w_340 : Cond.selects RX5 yX5_begin yX5_begin ∈ gw := gw_t 340 (by decide +kernel) (by decide +kernel)
theorem w_341 : Cond.code yX5_begin prog_7_method_2_code 2 none ∈ gw := gw_t 341 (by decide +kernel) (by decide +kernel)
theorem w_342 : Cond.methodLink RL 55 yX6_make ∈ gw := gw_t 342 (by decide +kernel) (by decide +kernel)
theorem w_343 : Cond.instanceMethod yX6_make ∈ gw := gw_t 343 (by decide +kernel) (by decide +kernel)
theorem w_344 : Cond.selects RX6 yX6_make yX6_make ∈ gw := gw_t 344 (by decide +kernel) (by decide +kernel)
theorem w_345 : Cond.code yX6_make prog_1_method_6_code 4 (some .int) ∈ gw := gw_t 345 (by decide +kernel) (by decide +kernel)
theorem w_346 : Cond.methodLink RX6 100 yX4_hasLive ∈ gw := gw_t 346 (by decide +kernel) (by decide +kernel)
theorem w_347 : Cond.instanceMethod yX4_hasLive ∈ gw := gw_t 347 (by decide +kernel) (by decide +kernel)
theorem w_348 : Cond.selects RX4 yX4_hasLive yX4_hasLive ∈ gw := gw_t 348 (by decide +kernel) (by decide +kernel)
theorem w_349 : Cond.code yX4_hasLive prog_6_method_4_code 2 (some .boolean) ∈ gw := gw_t 349 (by decide +kernel) (by decide +kernel)
theorem w_350 : Cond.methodLink RX6 103 yX5_isWalkedForGood ∈ gw := gw_t 350 (by decide +kernel) (by decide +kernel)
theorem w_351 : Cond.instanceMethod yX5_isWalkedForGood ∈ gw := gw_t 351 (by decide +kernel) (by decide +kernel)
theorem w_352 : Cond.selects RX5 yX5_isWalkedForGood yX5_isWalkedForGood ∈ gw := gw_t 352 (by decide +kernel) (by decide +kernel)
theorem w_353 : Cond.code yX5_isWalkedForGood prog_7_method_3_code 1 (some .boolean) ∈ gw := gw_t 353 (by decide +kernel) (by decide +kernel)
theorem w_354 : Cond.methodLink RX6 113 yX3_fill ∈ gw := gw_t 354 (by decide +kernel) (by decide +kernel)
theorem w_355 : Cond.instanceMethod yX3_fill ∈ gw := gw_t 355 (by decide +kernel) (by decide +kernel)
theorem w_356 : Cond.selects RX3 yX3_fill yX3_fill ∈ gw := gw_t 356 (by decide +kernel) (by decide +kernel)
theorem w_357 : Cond.code yX3_fill prog_5_method_2_code 5 (some .boolean) ∈ gw := gw_t 357 (by decide +kernel) (by decide +kernel)
theorem w_358 : Cond.methodLink RX3 25 yX3_addHead ∈ gw := gw_t 358 (by decide +kernel) (by decide +kernel)
theorem w_360 : Cond.instanceMethod yX3_addHead ∈ gw := gw_t 360 (by decide +kernel) (by decide +kernel)
theorem w_361 : Cond.code yX3_addHead prog_5_method_4_code 3 (some .boolean) ∈ gw := gw_t 361 (by decide +kernel) (by decide +kernel)
theorem w_362 : Cond.methodLink RX3 54 yX3_indexOf ∈ gw := gw_t 362 (by decide +kernel) (by decide +kernel)
theorem w_363 : Cond.instanceMethod yX3_indexOf ∈ gw := gw_t 363 (by decide +kernel) (by decide +kernel)
theorem w_364 : Cond.selects RX3 yX3_indexOf yX3_indexOf ∈ gw := gw_t 364 (by decide +kernel) (by decide +kernel)
theorem w_365 : Cond.code yX3_indexOf prog_5_method_8_code 3 (some .int) ∈ gw := gw_t 365 (by decide +kernel) (by decide +kernel)
theorem w_366 : Cond.methodLink RX3 29 yX3_addHeadsBehind ∈ gw := gw_t 366 (by decide +kernel) (by decide +kernel)
theorem w_368 : Cond.instanceMethod yX3_addHeadsBehind ∈ gw := gw_t 368 (by decide +kernel) (by decide +kernel)
theorem w_369 : Cond.code yX3_addHeadsBehind prog_5_method_3_code 5 (some .boolean) ∈ gw := gw_t 369 (by decide +kernel) (by decide +kernel)
theorem w_371 : Cond.static yX6_isKind ∈ gw := gw_t 371 (by decide +kernel) (by decide +kernel)
theorem w_372 : Cond.code yX6_isKind prog_1_method_30_code 1 (some .boolean) ∈ gw := gw_t 372 (by decide +kernel) (by decide +kernel)
theorem w_375 : Cond.static yX6_canGoElsewhere ∈ gw := gw_t 375 (by decide +kernel) (by decide +kernel)
theorem w_376 : Cond.code yX6_canGoElsewhere prog_1_method_33_code 1 (some .boolean) ∈ gw := gw_t 376 (by decide +kernel) (by decide +kernel)
theorem w_377 : Cond.methodLink RX3 33 yX3_sortHeads ∈ gw := gw_t 377 (by decide +kernel) (by decide +kernel)
theorem w_379 : Cond.instanceMethod yX3_sortHeads ∈ gw := gw_t 379 (by decide +kernel) (by decide +kernel)
theorem w_380 : Cond.code yX3_sortHeads prog_5_method_5_code 4 none ∈ gw := gw_t 380 (by decide +kernel) (by decide +kernel)
theorem w_381 : Cond.methodLink RX3 36 yX3_decode ∈ gw := gw_t 381 (by decide +kernel) (by decide +kernel)
theorem w_383 : Cond.instanceMethod yX3_decode ∈ gw := gw_t 383 (by decide +kernel) (by decide +kernel)
theorem w_384 : Cond.code yX3_decode prog_5_method_6_code 3 none ∈ gw := gw_t 384 (by decide +kernel) (by decide +kernel)
theorem w_385 : Cond.methodLink RX3 40 yX3_hasActsThatMeet ∈ gw := gw_t 385 (by decide +kernel) (by decide +kernel)
theorem w_387 : Cond.instanceMethod yX3_hasActsThatMeet ∈ gw := gw_t 387 (by decide +kernel) (by decide +kernel)
theorem w_388 : Cond.code yX3_hasActsThatMeet prog_5_method_7_code 2 (some .boolean) ∈ gw := gw_t 388 (by decide +kernel) (by decide +kernel)
theorem w_390 : Cond.methodLink RX6 117 yX6_giveMember ∈ gw := gw_t 390 (by decide +kernel) (by decide +kernel)
theorem w_392 : Cond.instanceMethod yX6_giveMember ∈ gw := gw_t 392 (by decide +kernel) (by decide +kernel)
theorem w_393 : Cond.code yX6_giveMember prog_1_method_28_code 2 none ∈ gw := gw_t 393 (by decide +kernel) (by decide +kernel)
theorem w_394 : Cond.methodLink RL 59 yX6_member ∈ gw := gw_t 394 (by decide +kernel) (by decide +kernel)
theorem w_395 : Cond.instanceMethod yX6_member ∈ gw := gw_t 395 (by decide +kernel) (by decide +kernel)
theorem w_396 : Cond.selects RX6 yX6_member yX6_member ∈ gw := gw_t 396 (by decide +kernel) (by decide +kernel)
theorem w_397 : Cond.code yX6_member prog_1_method_7_code 5 (some .int) ∈ gw := gw_t 397 (by decide +kernel) (by decide +kernel)
theorem w_398 : Cond.methodLink RX6 123 yX6_isNoRoutine ∈ gw := gw_t 398 (by decide +kernel) (by decide +kernel)
theorem w_400 : Cond.instanceMethod yX6_isNoRoutine ∈ gw := gw_t 400 (by decide +kernel) (by decide +kernel)
theorem w_401 : Cond.code yX6_isNoRoutine prog_1_method_21_code 2 (some .boolean) ∈ gw := gw_t 401 (by decide +kernel) (by decide +kernel)
theorem w_402 : Cond.methodLink RX6 129 yX3_placeCount ∈ gw := gw_t 402 (by decide +kernel) (by decide +kernel)
theorem w_403 : Cond.instanceMethod yX3_placeCount ∈ gw := gw_t 403 (by decide +kernel) (by decide +kernel)
theorem w_404 : Cond.selects RX3 yX3_placeCount yX3_placeCount ∈ gw := gw_t 404 (by decide +kernel) (by decide +kernel)
theorem w_405 : Cond.code yX3_placeCount prog_5_method_9_code 3 (some .int) ∈ gw := gw_t 405 (by decide +kernel) (by decide +kernel)
theorem w_406 : Cond.methodLink RL 67 yX6_makeable ∈ gw := gw_t 406 (by decide +kernel) (by decide +kernel)
theorem w_407 : Cond.instanceMethod yX6_makeable ∈ gw := gw_t 407 (by decide +kernel) (by decide +kernel)
theorem w_408 : Cond.selects RX6 yX6_makeable yX6_makeable ∈ gw := gw_t 408 (by decide +kernel) (by decide +kernel)
theorem w_409 : Cond.code yX6_makeable prog_1_method_9_code 2 (some .int) ∈ gw := gw_t 409 (by decide +kernel) (by decide +kernel)
theorem w_410 : Cond.methodLink RL 71 yX6_run ∈ gw := gw_t 410 (by decide +kernel) (by decide +kernel)
theorem w_411 : Cond.instanceMethod yX6_run ∈ gw := gw_t 411 (by decide +kernel) (by decide +kernel)
theorem w_412 : Cond.selects RX6 yX6_run yX6_run ∈ gw := gw_t 412 (by decide +kernel) (by decide +kernel)
theorem w_413 : Cond.code yX6_run prog_1_method_10_code 6 (some .int) ∈ gw := gw_t 413 (by decide +kernel) (by decide +kernel)
theorem w_414 : Cond.methodLink RX6 149 yX6_refusalOfRun ∈ gw := gw_t 414 (by decide +kernel) (by decide +kernel)
theorem w_416 : Cond.instanceMethod yX6_refusalOfRun ∈ gw := gw_t 416 (by decide +kernel) (by decide +kernel)
theorem w_417 : Cond.code yX6_refusalOfRun prog_1_method_22_code 3 (some .int) ∈ gw := gw_t 417 (by decide +kernel) (by decide +kernel)
theorem w_418 : Cond.methodLink RX6 153 yX0_begin ∈ gw := gw_t 418 (by decide +kernel) (by decide +kernel)
theorem w_419 : Cond.instanceMethod yX0_begin ∈ gw := gw_t 419 (by decide +kernel) (by decide +kernel)
theorem w_420 : Cond.selects RX0 yX0_begin yX0_begin ∈ gw := gw_t 420 (by decide +kernel) (by decide +kernel)
theorem w_421 : Cond.code yX0_begin prog_2_method_3_code 4 none ∈ gw := gw_t 421 (by decide +kernel) (by decide +kernel)
theorem w_422 : Cond.methodLink RX0 57 yX0_empty ∈ gw := gw_t 422 (by decide +kernel) (by decide +kernel)
theorem w_423 : Cond.instanceMethod yX0_empty ∈ gw := gw_t 423 (by decide +kernel) (by decide +kernel)
theorem w_424 : Cond.selects RX0 yX0_empty yX0_empty ∈ gw := gw_t 424 (by decide +kernel) (by decide +kernel)
theorem w_425 : Cond.code yX0_empty prog_2_method_2_code 1 none ∈ gw := gw_t 425 (by decide +kernel) (by decide +kernel)
theorem w_426 : Cond.methodLink RX0 60 yX0_enter ∈ gw := gw_t 426 (by decide +kernel) (by decide +kernel)
theorem w_428 : Cond.instanceMethod yX0_enter ∈ gw := gw_t 428 (by decide +kernel) (by decide +kernel)
theorem w_429 : Cond.code yX0_enter prog_2_method_7_code 3 none ∈ gw := gw_t 429 (by decide +kernel) (by decide +kernel)
theorem w_430 : Cond.methodLink RX0 91 yJ9_max_7cf53 ∈ gw := gw_t 430 (by decide +kernel) (by decide +kernel)
theorem w_431 : Cond.static yJ9_max_7cf53 ∈ gw := gw_t 431 (by decide +kernel) (by decide +kernel)
theorem w_432 : Cond.code yJ9_max_7cf53 prog_15_method_65_code 2 (some .int) ∈ gw := gw_t 432 (by decide +kernel) (by decide +kernel)
theorem w_433 : Cond.methodLink RX6 156 yX0_follow ∈ gw := gw_t 433 (by decide +kernel) (by decide +kernel)
theorem w_434 : Cond.instanceMethod yX0_follow ∈ gw := gw_t 434 (by decide +kernel) (by decide +kernel)
theorem w_435 : Cond.selects RX0 yX0_follow yX0_follow ∈ gw := gw_t 435 (by decide +kernel) (by decide +kernel)
theorem w_436 : Cond.code yX0_follow prog_2_method_5_code 4 none ∈ gw := gw_t 436 (by decide +kernel) (by decide +kernel)
theorem w_437 : Cond.methodLink RX0 64 yX0_step ∈ gw := gw_t 437 (by decide +kernel) (by decide +kernel)
theorem w_439 : Cond.instanceMethod yX0_step ∈ gw := gw_t 439 (by decide +kernel) (by decide +kernel)
theorem w_440 : Cond.code yX0_step prog_2_method_8_code 4 none ∈ gw := gw_t 440 (by decide +kernel) (by decide +kernel)
theorem w_441 : Cond.methodLink RX0 100 yX0_fetchFromMember ∈ gw := gw_t 441 (by decide +kernel) (by decide +kernel)
theorem w_443 : Cond.instanceMethod yX0_fetchFromMember ∈ gw := gw_t 443 (by decide +kernel) (by decide +kernel)
theorem w_444 : Cond.code yX0_fetchFromMember prog_2_method_9_code 3 (some .boolean) ∈ gw := gw_t 444 (by decide +kernel) (by decide +kernel)
theorem w_445 : Cond.methodLink RX0 135 yX4_hasLive ∈ gw := gw_t 445 (by decide +kernel) (by decide +kernel)
theorem w_446 : Cond.methodLink RX0 142 yX3_indexOf ∈ gw := gw_t 446 (by decide +kernel) (by decide +kernel)
theorem w_449 : Cond.methodLink RX0 120 yX0_leave ∈ gw := gw_t 449 (by decide +kernel) (by decide +kernel)
theorem w_451 : Cond.instanceMethod yX0_leave ∈ gw := gw_t 451 (by decide +kernel) (by decide +kernel)
theorem w_452 : Cond.code yX0_leave prog_2_method_10_code 1 none ∈ gw := gw_t 452 (by decide +kernel) (by decide +kernel)
theorem w_453 : Cond.methodLink RX0 123 yX0_enterCalled ∈ gw := gw_t 453 (by decide +kernel) (by decide +kernel)
theorem w_455 : Cond.instanceMethod yX0_enterCalled ∈ gw := gw_t 455 (by decide +kernel) (by decide +kernel)
theorem w_456 : Cond.code yX0_enterCalled prog_2_method_11_code 3 none ∈ gw := gw_t 456 (by decide +kernel) (by decide +kernel)
theorem w_458 : Cond.methodLink RX0 129 yX0_goesElsewhere ∈ gw := gw_t 458 (by decide +kernel) (by decide +kernel)
theorem w_460 : Cond.instanceMethod yX0_goesElsewhere ∈ gw := gw_t 460 (by decide +kernel) (by decide +kernel)
theorem w_461 : Cond.code yX0_goesElsewhere prog_2_method_12_code 1 (some .boolean) ∈ gw := gw_t 461 (by decide +kernel) (by decide +kernel)
theorem w_462 : Cond.methodLink RX0 132 yX0_doPlainAct ∈ gw := gw_t 462 (by decide +kernel) (by decide +kernel)
theorem w_464 : Cond.instanceMethod yX0_doPlainAct ∈ gw := gw_t 464 (by decide +kernel) (by decide +kernel)
theorem w_465 : Cond.code yX0_doPlainAct prog_2_method_14_code 1 none ∈ gw := gw_t 465 (by decide +kernel) (by decide +kernel)
theorem w_466 : Cond.methodLink RX0 153 yX0_swap ∈ gw := gw_t 466 (by decide +kernel) (by decide +kernel)
theorem w_468 : Cond.instanceMethod yX0_swap ∈ gw := gw_t 468 (by decide +kernel) (by decide +kernel)
theorem w_469 : Cond.code yX0_swap prog_2_method_13_code 2 none ∈ gw := gw_t 469 (by decide +kernel) (by decide +kernel)
theorem w_470 : Cond.methodLink RX0 156 yX4_become ∈ gw := gw_t 470 (by decide +kernel) (by decide +kernel)
theorem w_471 : Cond.methodLink RX0 76 yJ6_bitCount_0f7a4 ∈ gw := gw_t 471 (by decide +kernel) (by decide +kernel)
theorem w_472 : Cond.static yJ6_bitCount_0f7a4 ∈ gw := gw_t 472 (by decide +kernel) (by decide +kernel)
theorem w_473 : Cond.code yJ6_bitCount_0f7a4 prog_14_method_49_code 1 (some .int) ∈ gw := gw_t 473 (by decide +kernel) (by decide +kernel)
theorem w_474 : Cond.constant RJ6 265 (1431655765) ∈ gw := gw_t 474 (by decide +kernel) (by decide +kernel)
theorem w_475 : Cond.constant RJ6 266 (858993459) ∈ gw := gw_t 475 (by decide +kernel) (by decide +kernel)
theorem w_476 : Cond.constant RJ6 267 (252645135) ∈ gw := gw_t 476 (by decide +kernel) (by decide +kernel)
theorem w_477 : Cond.methodLink RL 76 yX6_ran ∈ gw := gw_t 477 (by decide +kernel) (by decide +kernel)
theorem w_478 : Cond.instanceMethod yX6_ran ∈ gw := gw_t 478 (by decide +kernel) (by decide +kernel)
theorem w_479 : Cond.selects RX6 yX6_ran yX6_ran ∈ gw := gw_t 479 (by decide +kernel) (by decide +kernel)
theorem w_480 : Cond.code yX6_ran prog_1_method_11_code 2 (some .int) ∈ gw := gw_t 480 (by decide +kernel) (by decide +kernel)
theorem w_481 : Cond.methodLink RX6 180 yX0_steps ∈ gw := gw_t 481 (by decide +kernel) (by decide +kernel)
theorem w_482 : Cond.instanceMethod yX0_steps ∈ gw := gw_t 482 (by decide +kernel) (by decide +kernel)
theorem w_483 : Cond.selects RX0 yX0_steps yX0_steps ∈ gw := gw_t 483 (by decide +kernel) (by decide +kernel)
theorem w_484 : Cond.code yX0_steps prog_2_method_4_code 1 (some .int) ∈ gw := gw_t 484 (by decide +kernel) (by decide +kernel)
theorem w_485 : Cond.constant RX6 193 (-2000000002) ∈ gw := gw_t 485 (by decide +kernel) (by decide +kernel)
theorem w_486 : Cond.methodLink RL 80 yX6_alike ∈ gw := gw_t 486 (by decide +kernel) (by decide +kernel)
theorem w_487 : Cond.instanceMethod yX6_alike ∈ gw := gw_t 487 (by decide +kernel) (by decide +kernel)
theorem w_488 : Cond.selects RX6 yX6_alike yX6_alike ∈ gw := gw_t 488 (by decide +kernel) (by decide +kernel)
theorem w_489 : Cond.code yX6_alike prog_1_method_12_code 6 (some .int) ∈ gw := gw_t 489 (by decide +kernel) (by decide +kernel)
theorem w_490 : Cond.methodLink RX6 198 yX4_copyFrom ∈ gw := gw_t 490 (by decide +kernel) (by decide +kernel)
theorem w_491 : Cond.instanceMethod yX4_copyFrom ∈ gw := gw_t 491 (by decide +kernel) (by decide +kernel)
theorem w_492 : Cond.selects RX4 yX4_copyFrom yX4_copyFrom ∈ gw := gw_t 492 (by decide +kernel) (by decide +kernel)
theorem w_493 : Cond.code yX4_copyFrom prog_6_method_6_code 3 none ∈ gw := gw_t 493 (by decide +kernel) (by decide +kernel)
theorem w_494 : Cond.methodLink RX4 40 arraycopyName ∈ gw := gw_t 494 (by decide +kernel) (by decide +kernel)
theorem w_495 : Cond.methodLink RX4 46 yX4_beginChanges ∈ gw := gw_t 495 (by decide +kernel) (by decide +kernel)
theorem w_496 : Cond.methodLink RX6 202 yX0_cameToTheSameAs ∈ gw := gw_t 496 (by decide +kernel) (by decide +kernel)
theorem w_497 : Cond.instanceMethod yX0_cameToTheSameAs ∈ gw := gw_t 497 (by decide +kernel) (by decide +kernel)
theorem w_498 : Cond.selects RX0 yX0_cameToTheSameAs yX0_cameToTheSameAs ∈ gw := gw_t 498 (by decide +kernel) (by decide +kernel)
theorem w_499 : Cond.code yX0_cameToTheSameAs prog_2_method_6_code 2 (some .boolean) ∈ gw := gw_t 499 (by decide +kernel) (by decide +kernel)
theorem w_500 : Cond.methodLink RX0 83 yX0_steps ∈ gw := gw_t 500 (by decide +kernel) (by decide +kernel)
theorem w_501 : Cond.methodLink RX0 87 yX4_hasSameBytesAs ∈ gw := gw_t 501 (by decide +kernel) (by decide +kernel)
theorem w_502 : Cond.instanceMethod yX4_hasSameBytesAs ∈ gw := gw_t 502 (by decide +kernel) (by decide +kernel)
theorem w_503 : Cond.selects RX4 yX4_hasSameBytesAs yX4_hasSameBytesAs ∈ gw := gw_t 503 (by decide +kernel) (by decide +kernel)
theorem w_504 : Cond.code yX4_hasSameBytesAs prog_6_method_7_code 3 (some .boolean) ∈ gw := gw_t 504 (by decide +kernel) (by decide +kernel)
theorem w_505 : Cond.methodLink RL 84 yX6_page ∈ gw := gw_t 505 (by decide +kernel) (by decide +kernel)
theorem w_506 : Cond.instanceMethod yX6_page ∈ gw := gw_t 506 (by decide +kernel) (by decide +kernel)
theorem w_507 : Cond.selects RX6 yX6_page yX6_page ∈ gw := gw_t 507 (by decide +kernel) (by decide +kernel)
theorem w_508 : Cond.code yX6_page prog_1_method_13_code 2 (some .int) ∈ gw := gw_t 508 (by decide +kernel) (by decide +kernel)
theorem w_509 : Cond.methodLink RX6 209 yJ6_bitCount_0f7a4 ∈ gw := gw_t 509 (by decide +kernel) (by decide +kernel)
theorem w_510 : Cond.methodLink RL 88 yX6_snapshot ∈ gw := gw_t 510 (by decide +kernel) (by decide +kernel)
theorem w_511 : Cond.instanceMethod yX6_snapshot ∈ gw := gw_t 511 (by decide +kernel) (by decide +kernel)
theorem w_512 : Cond.selects RX6 yX6_snapshot yX6_snapshot ∈ gw := gw_t 512 (by decide +kernel) (by decide +kernel)
theorem w_513 : Cond.code yX6_snapshot prog_1_method_14_code 1 (some .int) ∈ gw := gw_t 513 (by decide +kernel) (by decide +kernel)
theorem w_514 : Cond.methodLink RX6 218 arraycopyName ∈ gw := gw_t 514 (by decide +kernel) (by decide +kernel)
theorem w_515 : Cond.methodLink RL 92 yX6_restore ∈ gw := gw_t 515 (by decide +kernel) (by decide +kernel)
theorem w_516 : Cond.instanceMethod yX6_restore ∈ gw := gw_t 516 (by decide +kernel) (by decide +kernel)
theorem w_517 : Cond.selects RX6 yX6_restore yX6_restore ∈ gw := gw_t 517 (by decide +kernel) (by decide +kernel)
theorem w_518 : Cond.code yX6_restore prog_1_method_15_code 2 (some .int) ∈ gw := gw_t 518 (by decide +kernel) (by decide +kernel)
theorem w_519 : Cond.methodLink RX6 224 yX6_returnTo ∈ gw := gw_t 519 (by decide +kernel) (by decide +kernel)
theorem w_521 : Cond.instanceMethod yX6_returnTo ∈ gw := gw_t 521 (by decide +kernel) (by decide +kernel)
theorem w_522 : Cond.code yX6_returnTo prog_1_method_25_code 3 (some .int) ∈ gw := gw_t 522 (by decide +kernel) (by decide +kernel)
theorem w_523 : Cond.methodLink RX6 272 yX6_bringBack ∈ gw := gw_t 523 (by decide +kernel) (by decide +kernel)
theorem w_525 : Cond.instanceMethod yX6_bringBack ∈ gw := gw_t 525 (by decide +kernel) (by decide +kernel)
theorem w_526 : Cond.code yX6_bringBack prog_1_method_27_code 3 (some .int) ∈ gw := gw_t 526 (by decide +kernel) (by decide +kernel)
theorem w_527 : Cond.methodLink RX6 285 yX5_canComeBack ∈ gw := gw_t 527 (by decide +kernel) (by decide +kernel)
theorem w_528 : Cond.instanceMethod yX5_canComeBack ∈ gw := gw_t 528 (by decide +kernel) (by decide +kernel)
theorem w_529 : Cond.selects RX5 yX5_canComeBack yX5_canComeBack ∈ gw := gw_t 529 (by decide +kernel) (by decide +kernel)
theorem w_530 : Cond.code yX5_canComeBack prog_7_method_5_code 2 (some .boolean) ∈ gw := gw_t 530 (by decide +kernel) (by decide +kernel)
theorem w_531 : Cond.methodLink RX5 35 yX5_isWalkedForGood ∈ gw := gw_t 531 (by decide +kernel) (by decide +kernel)
theorem w_532 : Cond.methodLink RX5 39 yX3_isAsIn ∈ gw := gw_t 532 (by decide +kernel) (by decide +kernel)
theorem w_533 : Cond.instanceMethod yX3_isAsIn ∈ gw := gw_t 533 (by decide +kernel) (by decide +kernel)
theorem w_534 : Cond.selects RX3 yX3_isAsIn yX3_isAsIn ∈ gw := gw_t 534 (by decide +kernel) (by decide +kernel)
theorem w_535 : Cond.code yX3_isAsIn prog_5_method_10_code 3 (some .boolean) ∈ gw := gw_t 535 (by decide +kernel) (by decide +kernel)
theorem w_536 : Cond.methodLink RX6 289 yX5_takeBack ∈ gw := gw_t 536 (by decide +kernel) (by decide +kernel)
theorem w_537 : Cond.instanceMethod yX5_takeBack ∈ gw := gw_t 537 (by decide +kernel) (by decide +kernel)
theorem w_538 : Cond.selects RX5 yX5_takeBack yX5_takeBack ∈ gw := gw_t 538 (by decide +kernel) (by decide +kernel)
theorem w_539 : Cond.code yX5_takeBack prog_7_method_6_code 1 none ∈ gw := gw_t 539 (by decide +kernel) (by decide +kernel)
theorem w_540 : Cond.methodLink RL 96 yX6_undo ∈ gw := gw_t 540 (by decide +kernel) (by decide +kernel)
theorem w_541 : Cond.instanceMethod yX6_undo ∈ gw := gw_t 541 (by decide +kernel) (by decide +kernel)
theorem w_542 : Cond.selects RX6 yX6_undo yX6_undo ∈ gw := gw_t 542 (by decide +kernel) (by decide +kernel)
theorem w_543 : Cond.code yX6_undo prog_1_method_16_code 1 (some .int) ∈ gw := gw_t 543 (by decide +kernel) (by decide +kernel)
theorem w_544 : Cond.methodLink RX6 231 yX2_takeLatest ∈ gw := gw_t 544 (by decide +kernel) (by decide +kernel)
theorem w_545 : Cond.instanceMethod yX2_takeLatest ∈ gw := gw_t 545 (by decide +kernel) (by decide +kernel)
theorem w_546 : Cond.selects RX2 yX2_takeLatest yX2_takeLatest ∈ gw := gw_t 546 (by decide +kernel) (by decide +kernel)
theorem w_547 : Cond.code yX2_takeLatest prog_4_method_4_code 1 (some (.array .int)) ∈ gw := gw_t 547 (by decide +kernel) (by decide +kernel)
theorem w_548 : Cond.methodLink RL 104 yX6_count ∈ gw := gw_t 548 (by decide +kernel) (by decide +kernel)
theorem w_549 : Cond.instanceMethod yX6_count ∈ gw := gw_t 549 (by decide +kernel) (by decide +kernel)
theorem w_550 : Cond.selects RX6 yX6_count yX6_count ∈ gw := gw_t 550 (by decide +kernel) (by decide +kernel)
theorem w_551 : Cond.code yX6_count prog_1_method_18_code 2 (some .int) ∈ gw := gw_t 551 (by decide +kernel) (by decide +kernel)
theorem w_552 : Cond.methodLink RX6 249 yX6_countWalkedForGood ∈ gw := gw_t 552 (by decide +kernel) (by decide +kernel)
theorem w_554 : Cond.instanceMethod yX6_countWalkedForGood ∈ gw := gw_t 554 (by decide +kernel) (by decide +kernel)
theorem w_555 : Cond.code yX6_countWalkedForGood prog_1_method_29_code 3 (some .int) ∈ gw := gw_t 555 (by decide +kernel) (by decide +kernel)
theorem w_556 : Cond.methodLink RL 108 yX6_clear ∈ gw := gw_t 556 (by decide +kernel) (by decide +kernel)
theorem w_557 : Cond.instanceMethod yX6_clear ∈ gw := gw_t 557 (by decide +kernel) (by decide +kernel)
theorem w_558 : Cond.selects RX6 yX6_clear yX6_clear ∈ gw := gw_t 558 (by decide +kernel) (by decide +kernel)
theorem w_559 : Cond.code yX6_clear prog_1_method_19_code 2 (some .int) ∈ gw := gw_t 559 (by decide +kernel) (by decide +kernel)
theorem w_560 : Cond.methodLink RX6 252 yX4_empty ∈ gw := gw_t 560 (by decide +kernel) (by decide +kernel)
theorem w_561 : Cond.instanceMethod yX4_empty ∈ gw := gw_t 561 (by decide +kernel) (by decide +kernel)
theorem w_562 : Cond.selects RX4 yX4_empty yX4_empty ∈ gw := gw_t 562 (by decide +kernel) (by decide +kernel)
theorem w_563 : Cond.code yX4_empty prog_6_method_8_code 1 none ∈ gw := gw_t 563 (by decide +kernel) (by decide +kernel)
theorem w_564 : Cond.methodLink RX4 49 yJ7_fill_53178 ∈ gw := gw_t 564 (by decide +kernel) (by decide +kernel)
theorem w_565 : Cond.static yJ7_fill_53178 ∈ gw := gw_t 565 (by decide +kernel) (by decide +kernel)
theorem w_566 : Cond.code yJ7_fill_53178 prog_21_method_103_code 4 none ∈ gw := gw_t 566 (by decide +kernel) (by decide +kernel)
theorem w_567 : Cond.methodLink RX6 255 yX1_empty ∈ gw := gw_t 567 (by decide +kernel) (by decide +kernel)
theorem w_568 : Cond.instanceMethod yX1_empty ∈ gw := gw_t 568 (by decide +kernel) (by decide +kernel)
theorem w_569 : Cond.selects RX1 yX1_empty yX1_empty ∈ gw := gw_t 569 (by decide +kernel) (by decide +kernel)
theorem w_570 : Cond.code yX1_empty prog_3_method_3_code 1 none ∈ gw := gw_t 570 (by decide +kernel) (by decide +kernel)
theorem w_571 : Cond.methodLink RX1 34 yJ7_fill_53178 ∈ gw := gw_t 571 (by decide +kernel) (by decide +kernel)
theorem w_572 : Cond.methodLink RX6 256 yX2_empty ∈ gw := gw_t 572 (by decide +kernel) (by decide +kernel)
theorem w_573 : Cond.instanceMethod yX2_empty ∈ gw := gw_t 573 (by decide +kernel) (by decide +kernel)
theorem w_574 : Cond.selects RX2 yX2_empty yX2_empty ∈ gw := gw_t 574 (by decide +kernel) (by decide +kernel)
theorem w_575 : Cond.code yX2_empty prog_4_method_5_code 1 none ∈ gw := gw_t 575 (by decide +kernel) (by decide +kernel)
theorem w_576 : Cond.methodLink RX6 257 yX0_empty ∈ gw := gw_t 576 (by decide +kernel) (by decide +kernel)
theorem w_577 : Cond.methodLink RL 42 yL_read ∈ gw := gw_t 577 (by decide +kernel) (by decide +kernel)
theorem w_578 : Cond.static yL_read ∈ gw := gw_t 578 (by decide +kernel) (by decide +kernel)
theorem w_582 : Cond.instanceMethod yJx00060_init_a7421 ∈ gw := gw_t 582 (by decide +kernel) (by decide +kernel)
theorem w_583 : Cond.code yJx00060_init_a7421 prog_11_method_2_code 2 none ∈ gw := gw_t 583 (by decide +kernel) (by decide +kernel)
theorem w_607 : Cond.instanceMethod yJx5d777_fillInStackTrace_cddbd ∈ gw := gw_t 607 (by decide +kernel) (by decide +kernel)
theorem w_666 : Cond.methodLink RL 7 yX6_read ∈ gw := gw_t 666 (by decide +kernel) (by decide +kernel)
theorem w_667 : Cond.instanceMethod yX6_read ∈ gw := gw_t 667 (by decide +kernel) (by decide +kernel)
theorem w_668 : Cond.selects RX6 yX6_read yX6_read ∈ gw := gw_t 668 (by decide +kernel) (by decide +kernel)
theorem w_669 : Cond.code yX6_read prog_1_method_4_code 2 (some .int) ∈ gw := gw_t 669 (by decide +kernel) (by decide +kernel)
theorem w_672 : Cond.methodLink RX6 85 yJx00060_init_a7421 ∈ gw := gw_t 672 (by decide +kernel) (by decide +kernel)
theorem w_673 : Cond.methodLink RL 63 yL_head ∈ gw := gw_t 673 (by decide +kernel) (by decide +kernel)
theorem w_674 : Cond.static yL_head ∈ gw := gw_t 674 (by decide +kernel) (by decide +kernel)
theorem w_677 : Cond.instanceMethod yJx5d777_init_da8c8 ∈ gw := gw_t 677 (by decide +kernel) (by decide +kernel)
theorem w_678 : Cond.code yJx5d777_init_da8c8 prog_16_method_1_code 1 none ∈ gw := gw_t 678 (by decide +kernel) (by decide +kernel)
theorem w_702 : Cond.methodLink RL 15 yX6_head ∈ gw := gw_t 702 (by decide +kernel) (by decide +kernel)
theorem w_703 : Cond.instanceMethod yX6_head ∈ gw := gw_t 703 (by decide +kernel) (by decide +kernel)
theorem w_704 : Cond.selects RX6 yX6_head yX6_head ∈ gw := gw_t 704 (by decide +kernel) (by decide +kernel)
theorem w_705 : Cond.code yX6_head prog_1_method_8_code 4 (some .int) ∈ gw := gw_t 705 (by decide +kernel) (by decide +kernel)
theorem w_708 : Cond.methodLink RX6 143 yJx5d777_init_a7421 ∈ gw := gw_t 708 (by decide +kernel) (by decide +kernel)
theorem w_709 : Cond.instanceMethod yJx5d777_init_a7421 ∈ gw := gw_t 709 (by decide +kernel) (by decide +kernel)
theorem w_710 : Cond.code yJx5d777_init_a7421 prog_16_method_2_code 2 none ∈ gw := gw_t 710 (by decide +kernel) (by decide +kernel)
theorem w_713 : Cond.methodLink RL 100 yL_share ∈ gw := gw_t 713 (by decide +kernel) (by decide +kernel)
theorem w_714 : Cond.static yL_share ∈ gw := gw_t 714 (by decide +kernel) (by decide +kernel)
theorem w_730 : Cond.methodLink RL 21 yX6_share ∈ gw := gw_t 730 (by decide +kernel) (by decide +kernel)
theorem w_731 : Cond.instanceMethod yX6_share ∈ gw := gw_t 731 (by decide +kernel) (by decide +kernel)
theorem w_732 : Cond.selects RX6 yX6_share yX6_share ∈ gw := gw_t 732 (by decide +kernel) (by decide +kernel)
theorem w_733 : Cond.code yX6_share prog_1_method_17_code 1 (some .int) ∈ gw := gw_t 733 (by decide +kernel) (by decide +kernel)
theorem w_739 : Cond.methodLink RL 30 yX7_init ∈ gw := gw_t 739 (by decide +kernel) (by decide +kernel)
theorem w_740 : Cond.instanceMethod yX7_init ∈ gw := gw_t 740 (by decide +kernel) (by decide +kernel)
theorem w_741 : Cond.code yX7_init prog_9_method_1_code 1 none ∈ gw := gw_t 741 (by decide +kernel) (by decide +kernel)
theorem w_742 : Cond.methodLink RX7 1 objectInit ∈ gw := gw_t 742 (by decide +kernel) (by decide +kernel)
theorem w_743 : Cond.fieldLink RX7 71 "SelfChangeModel" "thrown" "I" ∈ gw := gw_t 743 (by decide +kernel) (by decide +kernel)
theorem w_744 : Cond.fieldLink RX7 7 "SelfChangeModel" "memory" "[I" ∈ gw := gw_t 744 (by decide +kernel) (by decide +kernel)
theorem w_745 : Cond.fieldLink RX7 75 "SelfChangeModel" "routines" "I" ∈ gw := gw_t 745 (by decide +kernel) (by decide +kernel)
theorem w_746 : Cond.fieldLink RX7 13 "SelfChangeModel" "begins" "[I" ∈ gw := gw_t 746 (by decide +kernel) (by decide +kernel)
theorem w_747 : Cond.fieldLink RX7 16 "SelfChangeModel" "has" "[Z" ∈ gw := gw_t 747 (by decide +kernel) (by decide +kernel)
theorem w_748 : Cond.fieldLink RX7 20 "SelfChangeModel" "isHead" "[Z" ∈ gw := gw_t 748 (by decide +kernel) (by decide +kernel)
theorem w_749 : Cond.fieldLink RX7 23 "SelfChangeModel" "isIn" "[Z" ∈ gw := gw_t 749 (by decide +kernel) (by decide +kernel)
theorem w_750 : Cond.fieldLink RX7 26 "SelfChangeModel" "asMade" "[I" ∈ gw := gw_t 750 (by decide +kernel) (by decide +kernel)
theorem w_751 : Cond.fieldLink RX7 29 "SelfChangeModel" "drops" "[I" ∈ gw := gw_t 751 (by decide +kernel) (by decide +kernel)
theorem w_752 : Cond.fieldLink RX7 32 "SelfChangeModel" "lies" "[Z" ∈ gw := gw_t 752 (by decide +kernel) (by decide +kernel)
theorem w_753 : Cond.fieldLink RX7 35 "SelfChangeModel" "asideHead" "[Z" ∈ gw := gw_t 753 (by decide +kernel) (by decide +kernel)
theorem w_754 : Cond.fieldLink RX7 38 "SelfChangeModel" "asideIn" "[Z" ∈ gw := gw_t 754 (by decide +kernel) (by decide +kernel)
theorem w_755 : Cond.fieldLink RX7 41 "SelfChangeModel" "asideByte" "[I" ∈ gw := gw_t 755 (by decide +kernel) (by decide +kernel)
theorem w_756 : Cond.fieldLink RX7 85 "SelfChangeModel" "looks" "I" ∈ gw := gw_t 756 (by decide +kernel) (by decide +kernel)
theorem w_757 : Cond.fieldLink RX7 124 "SelfChangeModel" "madeAll" "I" ∈ gw := gw_t 757 (by decide +kernel) (by decide +kernel)
theorem w_758 : Cond.fieldLink RX7 82 "SelfChangeModel" "droppedAll" "I" ∈ gw := gw_t 758 (by decide +kernel) (by decide +kernel)
theorem w_759 : Cond.fieldLink RX7 191 "SelfChangeModel" "backAll" "I" ∈ gw := gw_t 759 (by decide +kernel) (by decide +kernel)
theorem w_760 : Cond.fieldLink RX7 177 "SelfChangeModel" "byMembers" "J" ∈ gw := gw_t 760 (by decide +kernel) (by decide +kernel)
theorem w_761 : Cond.fieldLink RX7 181 "SelfChangeModel" "walked" "J" ∈ gw := gw_t 761 (by decide +kernel) (by decide +kernel)
theorem w_762 : Cond.fieldLink RX7 185 "SelfChangeModel" "snapshots" "I" ∈ gw := gw_t 762 (by decide +kernel) (by decide +kernel)
theorem w_763 : Cond.fieldLink RX7 44 "SelfChangeModel" "snapshot" "[I" ∈ gw := gw_t 763 (by decide +kernel) (by decide +kernel)
theorem w_764 : Cond.fieldLink RX7 96 "SelfChangeModel" "keptMany" "I" ∈ gw := gw_t 764 (by decide +kernel) (by decide +kernel)
theorem w_765 : Cond.fieldLink RX7 47 "SelfChangeModel" "kept" "[I" ∈ gw := gw_t 765 (by decide +kernel) (by decide +kernel)
theorem w_766 : Cond.fieldLink RX7 50 "SelfChangeModel" "before" "[I" ∈ gw := gw_t 766 (by decide +kernel) (by decide +kernel)
theorem w_767 : Cond.fieldLink RX7 53 "SelfChangeModel" "told" "[I" ∈ gw := gw_t 767 (by decide +kernel) (by decide +kernel)
theorem w_768 : Cond.fieldLink RX7 56 "SelfChangeModel" "head" "[Z" ∈ gw := gw_t 768 (by decide +kernel) (by decide +kernel)
theorem w_769 : Cond.fieldLink RX7 59 "SelfChangeModel" "gone" "[Z" ∈ gw := gw_t 769 (by decide +kernel) (by decide +kernel)
theorem w_770 : Cond.fieldLink RX7 62 "SelfChangeModel" "covered" "[I" ∈ gw := gw_t 770 (by decide +kernel) (by decide +kernel)
theorem w_771 : Cond.fieldLink RX7 65 "SelfChangeModel" "callers" "[I" ∈ gw := gw_t 771 (by decide +kernel) (by decide +kernel)
theorem w_772 : Cond.fieldLink RX7 68 "SelfChangeModel" "returns" "[I" ∈ gw := gw_t 772 (by decide +kernel) (by decide +kernel)
theorem w_773 : Cond.fieldLink RX7 140 "SelfChangeModel" "a" "I" ∈ gw := gw_t 773 (by decide +kernel) (by decide +kernel)
theorem w_774 : Cond.fieldLink RX7 143 "SelfChangeModel" "b" "I" ∈ gw := gw_t 774 (by decide +kernel) (by decide +kernel)
theorem w_775 : Cond.fieldLink RX7 159 "SelfChangeModel" "at" "I" ∈ gw := gw_t 775 (by decide +kernel) (by decide +kernel)
theorem w_776 : Cond.fieldLink RX7 153 "SelfChangeModel" "in1" "I" ∈ gw := gw_t 776 (by decide +kernel) (by decide +kernel)
theorem w_777 : Cond.fieldLink RX7 150 "SelfChangeModel" "deep" "I" ∈ gw := gw_t 777 (by decide +kernel) (by decide +kernel)
theorem w_778 : Cond.fieldLink RX7 162 "SelfChangeModel" "steps" "I" ∈ gw := gw_t 778 (by decide +kernel) (by decide +kernel)
theorem w_779 : Cond.fieldLink RX7 165 "SelfChangeModel" "members" "I" ∈ gw := gw_t 779 (by decide +kernel) (by decide +kernel)
theorem w_780 : Cond.fieldLink RX7 137 "SelfChangeModel" "dropped" "I" ∈ gw := gw_t 780 (by decide +kernel) (by decide +kernel)
theorem w_781 : Cond.fieldLink RX7 134 "SelfChangeModel" "others" "I" ∈ gw := gw_t 781 (by decide +kernel) (by decide +kernel)
theorem w_782 : Cond.fieldLink RX7 156 "SelfChangeModel" "most" "I" ∈ gw := gw_t 782 (by decide +kernel) (by decide +kernel)
theorem w_865 : Cond.methodLink RL 48 yX7_thrown ∈ gw := gw_t 865 (by decide +kernel) (by decide +kernel)
theorem w_866 : Cond.instanceMethod yX7_thrown ∈ gw := gw_t 866 (by decide +kernel) (by decide +kernel)
theorem w_867 : Cond.selects RX7 yX7_thrown yX7_thrown ∈ gw := gw_t 867 (by decide +kernel) (by decide +kernel)
theorem w_868 : Cond.code yX7_thrown prog_9_method_2_code 1 (some .int) ∈ gw := gw_t 868 (by decide +kernel) (by decide +kernel)
theorem w_869 : Cond.methodLink RL 37 yX7_put ∈ gw := gw_t 869 (by decide +kernel) (by decide +kernel)
theorem w_870 : Cond.instanceMethod yX7_put ∈ gw := gw_t 870 (by decide +kernel) (by decide +kernel)
theorem w_871 : Cond.selects RX7 yX7_put yX7_put ∈ gw := gw_t 871 (by decide +kernel) (by decide +kernel)
theorem w_872 : Cond.code yX7_put prog_9_method_10_code 9 (some .int) ∈ gw := gw_t 872 (by decide +kernel) (by decide +kernel)
theorem w_873 : Cond.methodLink RX7 78 yX7_in ∈ gw := gw_t 873 (by decide +kernel) (by decide +kernel)
theorem w_874 : Cond.static yX7_in ∈ gw := gw_t 874 (by decide +kernel) (by decide +kernel)
theorem w_875 : Cond.code yX7_in prog_9_method_3_code 3 (some .boolean) ∈ gw := gw_t 875 (by decide +kernel) (by decide +kernel)
theorem w_876 : Cond.methodLink RX7 99 yX7_note ∈ gw := gw_t 876 (by decide +kernel) (by decide +kernel)
theorem w_878 : Cond.instanceMethod yX7_note ∈ gw := gw_t 878 (by decide +kernel) (by decide +kernel)
theorem w_879 : Cond.code yX7_note prog_9_method_8_code 2 none ∈ gw := gw_t 879 (by decide +kernel) (by decide +kernel)
theorem w_880 : Cond.constantLong RX7 102 (255) ∈ gw := gw_t 880 (by decide +kernel) (by decide +kernel)
theorem w_881 : Cond.methodLink RX7 104 yX7_becomes ∈ gw := gw_t 881 (by decide +kernel) (by decide +kernel)
theorem w_883 : Cond.instanceMethod yX7_becomes ∈ gw := gw_t 883 (by decide +kernel) (by decide +kernel)
theorem w_884 : Cond.code yX7_becomes prog_9_method_7_code 5 (some .int) ∈ gw := gw_t 884 (by decide +kernel) (by decide +kernel)
theorem w_885 : Cond.methodLink RX7 88 yX7_isLooked ∈ gw := gw_t 885 (by decide +kernel) (by decide +kernel)
theorem w_887 : Cond.instanceMethod yX7_isLooked ∈ gw := gw_t 887 (by decide +kernel) (by decide +kernel)
theorem w_888 : Cond.code yX7_isLooked prog_9_method_5_code 5 (some .boolean) ∈ gw := gw_t 888 (by decide +kernel) (by decide +kernel)
theorem w_889 : Cond.methodLink RX7 92 yX7_drop ∈ gw := gw_t 889 (by decide +kernel) (by decide +kernel)
theorem w_891 : Cond.instanceMethod yX7_drop ∈ gw := gw_t 891 (by decide +kernel) (by decide +kernel)
theorem w_892 : Cond.code yX7_drop prog_9_method_6_code 3 none ∈ gw := gw_t 892 (by decide +kernel) (by decide +kernel)
theorem w_893 : Cond.methodLink RX7 108 yX7_keep ∈ gw := gw_t 893 (by decide +kernel) (by decide +kernel)
theorem w_895 : Cond.instanceMethod yX7_keep ∈ gw := gw_t 895 (by decide +kernel) (by decide +kernel)
theorem w_896 : Cond.code yX7_keep prog_9_method_9_code 2 none ∈ gw := gw_t 896 (by decide +kernel) (by decide +kernel)
theorem w_897 : Cond.methodLink RL 41 yX7_write ∈ gw := gw_t 897 (by decide +kernel) (by decide +kernel)
theorem w_898 : Cond.instanceMethod yX7_write ∈ gw := gw_t 898 (by decide +kernel) (by decide +kernel)
theorem w_899 : Cond.selects RX7 yX7_write yX7_write ∈ gw := gw_t 899 (by decide +kernel) (by decide +kernel)
theorem w_900 : Cond.code yX7_write prog_9_method_11_code 4 (some .int) ∈ gw := gw_t 900 (by decide +kernel) (by decide +kernel)
theorem w_901 : Cond.methodLink RL 47 yX7_read ∈ gw := gw_t 901 (by decide +kernel) (by decide +kernel)
theorem w_902 : Cond.instanceMethod yX7_read ∈ gw := gw_t 902 (by decide +kernel) (by decide +kernel)
theorem w_903 : Cond.selects RX7 yX7_read yX7_read ∈ gw := gw_t 903 (by decide +kernel) (by decide +kernel)
theorem w_904 : Cond.code yX7_read prog_9_method_12_code 2 (some .int) ∈ gw := gw_t 904 (by decide +kernel) (by decide +kernel)
theorem w_905 : Cond.methodLink RL 54 yX7_routine ∈ gw := gw_t 905 (by decide +kernel) (by decide +kernel)
theorem w_906 : Cond.instanceMethod yX7_routine ∈ gw := gw_t 906 (by decide +kernel) (by decide +kernel)
theorem w_907 : Cond.selects RX7 yX7_routine yX7_routine ∈ gw := gw_t 907 (by decide +kernel) (by decide +kernel)
theorem w_908 : Cond.code yX7_routine prog_9_method_13_code 2 (some .int) ∈ gw := gw_t 908 (by decide +kernel) (by decide +kernel)
theorem w_909 : Cond.methodLink RL 58 yX7_make ∈ gw := gw_t 909 (by decide +kernel) (by decide +kernel)
theorem w_910 : Cond.instanceMethod yX7_make ∈ gw := gw_t 910 (by decide +kernel) (by decide +kernel)
theorem w_911 : Cond.selects RX7 yX7_make yX7_make ∈ gw := gw_t 911 (by decide +kernel) (by decide +kernel)
theorem w_912 : Cond.code yX7_make prog_9_method_18_code 4 (some .int) ∈ gw := gw_t 912 (by decide +kernel) (by decide +kernel)
theorem w_913 : Cond.methodLink RX7 121 yX7_find ∈ gw := gw_t 913 (by decide +kernel) (by decide +kernel)
theorem w_915 : Cond.instanceMethod yX7_find ∈ gw := gw_t 915 (by decide +kernel) (by decide +kernel)
theorem w_916 : Cond.code yX7_find prog_9_method_17_code 6 (some .boolean) ∈ gw := gw_t 916 (by decide +kernel) (by decide +kernel)
theorem w_917 : Cond.methodLink RX7 111 yX7_isLong ∈ gw := gw_t 917 (by decide +kernel) (by decide +kernel)
theorem w_918 : Cond.static yX7_isLong ∈ gw := gw_t 918 (by decide +kernel) (by decide +kernel)
theorem w_919 : Cond.code yX7_isLong prog_9_method_14_code 1 (some .boolean) ∈ gw := gw_t 919 (by decide +kernel) (by decide +kernel)
theorem w_920 : Cond.methodLink RX7 114 yX7_behind ∈ gw := gw_t 920 (by decide +kernel) (by decide +kernel)
theorem w_922 : Cond.instanceMethod yX7_behind ∈ gw := gw_t 922 (by decide +kernel) (by decide +kernel)
theorem w_923 : Cond.code yX7_behind prog_9_method_15_code 2 (some .int) ∈ gw := gw_t 923 (by decide +kernel) (by decide +kernel)
theorem w_924 : Cond.methodLink RX7 118 yX7_other ∈ gw := gw_t 924 (by decide +kernel) (by decide +kernel)
theorem w_926 : Cond.instanceMethod yX7_other ∈ gw := gw_t 926 (by decide +kernel) (by decide +kernel)
theorem w_927 : Cond.code yX7_other prog_9_method_16_code 2 (some .int) ∈ gw := gw_t 927 (by decide +kernel) (by decide +kernel)
theorem w_928 : Cond.methodLink RL 62 yX7_member ∈ gw := gw_t 928 (by decide +kernel) (by decide +kernel)
theorem w_929 : Cond.instanceMethod yX7_member ∈ gw := gw_t 929 (by decide +kernel) (by decide +kernel)
theorem w_930 : Cond.selects RX7 yX7_member yX7_member ∈ gw := gw_t 930 (by decide +kernel) (by decide +kernel)
theorem w_931 : Cond.code yX7_member prog_9_method_20_code 3 (some .int) ∈ gw := gw_t 931 (by decide +kernel) (by decide +kernel)
theorem w_932 : Cond.methodLink RX7 127 yX7_isRoutine ∈ gw := gw_t 932 (by decide +kernel) (by decide +kernel)
theorem w_934 : Cond.instanceMethod yX7_isRoutine ∈ gw := gw_t 934 (by decide +kernel) (by decide +kernel)
theorem w_935 : Cond.code yX7_isRoutine prog_9_method_4_code 2 (some .boolean) ∈ gw := gw_t 935 (by decide +kernel) (by decide +kernel)
theorem w_936 : Cond.methodLink RX7 130 yX7_countOf ∈ gw := gw_t 936 (by decide +kernel) (by decide +kernel)
theorem w_938 : Cond.instanceMethod yX7_countOf ∈ gw := gw_t 938 (by decide +kernel) (by decide +kernel)
theorem w_939 : Cond.code yX7_countOf prog_9_method_19_code 5 (some .int) ∈ gw := gw_t 939 (by decide +kernel) (by decide +kernel)
theorem w_940 : Cond.methodLink RL 66 yX7_head ∈ gw := gw_t 940 (by decide +kernel) (by decide +kernel)
theorem w_941 : Cond.instanceMethod yX7_head ∈ gw := gw_t 941 (by decide +kernel) (by decide +kernel)
theorem w_942 : Cond.selects RX7 yX7_head yX7_head ∈ gw := gw_t 942 (by decide +kernel) (by decide +kernel)
theorem w_943 : Cond.code yX7_head prog_9_method_21_code 5 (some .int) ∈ gw := gw_t 943 (by decide +kernel) (by decide +kernel)
theorem w_944 : Cond.methodLink RL 70 yX7_makeable ∈ gw := gw_t 944 (by decide +kernel) (by decide +kernel)
theorem w_945 : Cond.instanceMethod yX7_makeable ∈ gw := gw_t 945 (by decide +kernel) (by decide +kernel)
theorem w_946 : Cond.selects RX7 yX7_makeable yX7_makeable ∈ gw := gw_t 946 (by decide +kernel) (by decide +kernel)
theorem w_947 : Cond.code yX7_makeable prog_9_method_22_code 2 (some .int) ∈ gw := gw_t 947 (by decide +kernel) (by decide +kernel)
theorem w_948 : Cond.methodLink RL 75 yX7_run ∈ gw := gw_t 948 (by decide +kernel) (by decide +kernel)
theorem w_949 : Cond.instanceMethod yX7_run ∈ gw := gw_t 949 (by decide +kernel) (by decide +kernel)
theorem w_950 : Cond.selects RX7 yX7_run yX7_run ∈ gw := gw_t 950 (by decide +kernel) (by decide +kernel)
theorem w_951 : Cond.code yX7_run prog_9_method_27_code 6 (some .int) ∈ gw := gw_t 951 (by decide +kernel) (by decide +kernel)
theorem w_952 : Cond.methodLink RX7 174 yX7_act ∈ gw := gw_t 952 (by decide +kernel) (by decide +kernel)
theorem w_954 : Cond.instanceMethod yX7_act ∈ gw := gw_t 954 (by decide +kernel) (by decide +kernel)
theorem w_955 : Cond.code yX7_act prog_9_method_26_code 6 (some .int) ∈ gw := gw_t 955 (by decide +kernel) (by decide +kernel)
theorem w_956 : Cond.methodLink RX7 168 yX7_calls ∈ gw := gw_t 956 (by decide +kernel) (by decide +kernel)
theorem w_958 : Cond.instanceMethod yX7_calls ∈ gw := gw_t 958 (by decide +kernel) (by decide +kernel)
theorem w_959 : Cond.code yX7_calls prog_9_method_25_code 3 (some .int) ∈ gw := gw_t 959 (by decide +kernel) (by decide +kernel)
theorem w_960 : Cond.methodLink RX7 171 yX7_works ∈ gw := gw_t 960 (by decide +kernel) (by decide +kernel)
theorem w_962 : Cond.instanceMethod yX7_works ∈ gw := gw_t 962 (by decide +kernel) (by decide +kernel)
theorem w_963 : Cond.code yX7_works prog_9_method_24_code 4 none ∈ gw := gw_t 963 (by decide +kernel) (by decide +kernel)
theorem w_964 : Cond.methodLink RX7 146 yX7_changes ∈ gw := gw_t 964 (by decide +kernel) (by decide +kernel)
theorem w_966 : Cond.instanceMethod yX7_changes ∈ gw := gw_t 966 (by decide +kernel) (by decide +kernel)
theorem w_967 : Cond.code yX7_changes prog_9_method_23_code 4 none ∈ gw := gw_t 967 (by decide +kernel) (by decide +kernel)
theorem w_968 : Cond.methodLink RL 79 yX7_ran ∈ gw := gw_t 968 (by decide +kernel) (by decide +kernel)
theorem w_969 : Cond.instanceMethod yX7_ran ∈ gw := gw_t 969 (by decide +kernel) (by decide +kernel)
theorem w_970 : Cond.selects RX7 yX7_ran yX7_ran ∈ gw := gw_t 970 (by decide +kernel) (by decide +kernel)
theorem w_971 : Cond.code yX7_ran prog_9_method_28_code 2 (some .int) ∈ gw := gw_t 971 (by decide +kernel) (by decide +kernel)
theorem w_972 : Cond.constant RX7 184 (-2000000002) ∈ gw := gw_t 972 (by decide +kernel) (by decide +kernel)
theorem w_973 : Cond.methodLink RL 83 yX7_alike ∈ gw := gw_t 973 (by decide +kernel) (by decide +kernel)
theorem w_974 : Cond.instanceMethod yX7_alike ∈ gw := gw_t 974 (by decide +kernel) (by decide +kernel)
theorem w_975 : Cond.selects RX7 yX7_alike yX7_alike ∈ gw := gw_t 975 (by decide +kernel) (by decide +kernel)
theorem w_976 : Cond.code yX7_alike prog_9_method_29_code 5 (some .int) ∈ gw := gw_t 976 (by decide +kernel) (by decide +kernel)
theorem w_977 : Cond.methodLink RL 87 yX7_page ∈ gw := gw_t 977 (by decide +kernel) (by decide +kernel)
theorem w_978 : Cond.instanceMethod yX7_page ∈ gw := gw_t 978 (by decide +kernel) (by decide +kernel)
theorem w_979 : Cond.selects RX7 yX7_page yX7_page ∈ gw := gw_t 979 (by decide +kernel) (by decide +kernel)
theorem w_980 : Cond.code yX7_page prog_9_method_30_code 6 (some .int) ∈ gw := gw_t 980 (by decide +kernel) (by decide +kernel)
theorem w_981 : Cond.methodLink RL 91 yX7_snapshot ∈ gw := gw_t 981 (by decide +kernel) (by decide +kernel)
theorem w_982 : Cond.instanceMethod yX7_snapshot ∈ gw := gw_t 982 (by decide +kernel) (by decide +kernel)
theorem w_983 : Cond.selects RX7 yX7_snapshot yX7_snapshot ∈ gw := gw_t 983 (by decide +kernel) (by decide +kernel)
theorem w_984 : Cond.code yX7_snapshot prog_9_method_31_code 2 (some .int) ∈ gw := gw_t 984 (by decide +kernel) (by decide +kernel)
theorem w_985 : Cond.methodLink RL 95 yX7_restore ∈ gw := gw_t 985 (by decide +kernel) (by decide +kernel)
theorem w_986 : Cond.instanceMethod yX7_restore ∈ gw := gw_t 986 (by decide +kernel) (by decide +kernel)
theorem w_987 : Cond.selects RX7 yX7_restore yX7_restore ∈ gw := gw_t 987 (by decide +kernel) (by decide +kernel)
theorem w_988 : Cond.code yX7_restore prog_9_method_34_code 3 (some .int) ∈ gw := gw_t 988 (by decide +kernel) (by decide +kernel)
theorem w_989 : Cond.methodLink RX7 194 yX7_returned ∈ gw := gw_t 989 (by decide +kernel) (by decide +kernel)
theorem w_991 : Cond.instanceMethod yX7_returned ∈ gw := gw_t 991 (by decide +kernel) (by decide +kernel)
theorem w_992 : Cond.code yX7_returned prog_9_method_33_code 5 (some .int) ∈ gw := gw_t 992 (by decide +kernel) (by decide +kernel)
theorem w_993 : Cond.methodLink RX7 188 yX7_isAsMade ∈ gw := gw_t 993 (by decide +kernel) (by decide +kernel)
theorem w_995 : Cond.instanceMethod yX7_isAsMade ∈ gw := gw_t 995 (by decide +kernel) (by decide +kernel)
theorem w_996 : Cond.code yX7_isAsMade prog_9_method_32_code 4 (some .boolean) ∈ gw := gw_t 996 (by decide +kernel) (by decide +kernel)
theorem w_997 : Cond.methodLink RL 99 yX7_undo ∈ gw := gw_t 997 (by decide +kernel) (by decide +kernel)
theorem w_998 : Cond.instanceMethod yX7_undo ∈ gw := gw_t 998 (by decide +kernel) (by decide +kernel)
theorem w_999 : Cond.selects RX7 yX7_undo yX7_undo ∈ gw := gw_t 999 (by decide +kernel) (by decide +kernel)
theorem w_1000 : Cond.code yX7_undo prog_9_method_35_code 2 (some .int) ∈ gw := gw_t 1000 (by decide +kernel) (by decide +kernel)
theorem w_1001 : Cond.methodLink RL 103 yX7_share ∈ gw := gw_t 1001 (by decide +kernel) (by decide +kernel)
theorem w_1002 : Cond.instanceMethod yX7_share ∈ gw := gw_t 1002 (by decide +kernel) (by decide +kernel)
theorem w_1003 : Cond.selects RX7 yX7_share yX7_share ∈ gw := gw_t 1003 (by decide +kernel) (by decide +kernel)
theorem w_1004 : Cond.code yX7_share prog_9_method_36_code 1 (some .int) ∈ gw := gw_t 1004 (by decide +kernel) (by decide +kernel)
theorem w_1005 : Cond.methodLink RL 107 yX7_count ∈ gw := gw_t 1005 (by decide +kernel) (by decide +kernel)
theorem w_1006 : Cond.instanceMethod yX7_count ∈ gw := gw_t 1006 (by decide +kernel) (by decide +kernel)
theorem w_1007 : Cond.selects RX7 yX7_count yX7_count ∈ gw := gw_t 1007 (by decide +kernel) (by decide +kernel)
theorem w_1008 : Cond.code yX7_count prog_9_method_37_code 5 (some .int) ∈ gw := gw_t 1008 (by decide +kernel) (by decide +kernel)
theorem w_1009 : Cond.methodLink RL 111 yX7_clear ∈ gw := gw_t 1009 (by decide +kernel) (by decide +kernel)
theorem w_1010 : Cond.instanceMethod yX7_clear ∈ gw := gw_t 1010 (by decide +kernel) (by decide +kernel)
theorem w_1011 : Cond.selects RX7 yX7_clear yX7_clear ∈ gw := gw_t 1011 (by decide +kernel) (by decide +kernel)
theorem w_1012 : Cond.code yX7_clear prog_9_method_38_code 3 (some .int) ∈ gw := gw_t 1012 (by decide +kernel) (by decide +kernel)
theorem w_1013 : Cond.constantLong RL 31 (4294967295) ∈ gw := gw_t 1013 (by decide +kernel) (by decide +kernel)
theorem ws_0 : Cond.selects RX6 yX6_beginKeeping yX6_beginKeeping ∈ gw := gw_s 0 (by decide +kernel) (by decide +kernel)
theorem ws_1 : Cond.selects RX6 yX6_endKeeping yX6_endKeeping ∈ gw := gw_s 1 (by decide +kernel) (by decide +kernel)
theorem ws_2 : Cond.selects RX6 yX6_layDroppedAside yX6_layDroppedAside ∈ gw := gw_s 2 (by decide +kernel) (by decide +kernel)
theorem ws_3 : Cond.selects RX5 yX5_exchange yX5_exchange ∈ gw := gw_s 3 (by decide +kernel) (by decide +kernel)
theorem ws_4 : Cond.selects RX3 yX3_addHead yX3_addHead ∈ gw := gw_s 4 (by decide +kernel) (by decide +kernel)
theorem ws_5 : Cond.selects RX3 yX3_addHeadsBehind yX3_addHeadsBehind ∈ gw := gw_s 5 (by decide +kernel) (by decide +kernel)
theorem ws_6 : Cond.selects RX3 yX3_sortHeads yX3_sortHeads ∈ gw := gw_s 6 (by decide +kernel) (by decide +kernel)
theorem ws_7 : Cond.selects RX3 yX3_decode yX3_decode ∈ gw := gw_s 7 (by decide +kernel) (by decide +kernel)
theorem ws_8 : Cond.selects RX3 yX3_hasActsThatMeet yX3_hasActsThatMeet ∈ gw := gw_s 8 (by decide +kernel) (by decide +kernel)
theorem ws_9 : Cond.selects RX6 yX6_giveMember yX6_giveMember ∈ gw := gw_s 9 (by decide +kernel) (by decide +kernel)
theorem ws_10 : Cond.selects RX6 yX6_isNoRoutine yX6_isNoRoutine ∈ gw := gw_s 10 (by decide +kernel) (by decide +kernel)
theorem ws_11 : Cond.selects RX6 yX6_refusalOfRun yX6_refusalOfRun ∈ gw := gw_s 11 (by decide +kernel) (by decide +kernel)
theorem ws_12 : Cond.selects RX0 yX0_enter yX0_enter ∈ gw := gw_s 12 (by decide +kernel) (by decide +kernel)
theorem ws_13 : Cond.selects RX0 yX0_step yX0_step ∈ gw := gw_s 13 (by decide +kernel) (by decide +kernel)
theorem ws_14 : Cond.selects RX0 yX0_fetchFromMember yX0_fetchFromMember ∈ gw := gw_s 14 (by decide +kernel) (by decide +kernel)
theorem ws_15 : Cond.selects RX0 yX0_leave yX0_leave ∈ gw := gw_s 15 (by decide +kernel) (by decide +kernel)
theorem ws_16 : Cond.selects RX0 yX0_enterCalled yX0_enterCalled ∈ gw := gw_s 16 (by decide +kernel) (by decide +kernel)
theorem ws_17 : Cond.selects RX0 yX0_goesElsewhere yX0_goesElsewhere ∈ gw := gw_s 17 (by decide +kernel) (by decide +kernel)
theorem ws_18 : Cond.selects RX0 yX0_doPlainAct yX0_doPlainAct ∈ gw := gw_s 18 (by decide +kernel) (by decide +kernel)
theorem ws_19 : Cond.selects RX0 yX0_swap yX0_swap ∈ gw := gw_s 19 (by decide +kernel) (by decide +kernel)
theorem ws_20 : Cond.selects RX6 yX6_returnTo yX6_returnTo ∈ gw := gw_s 20 (by decide +kernel) (by decide +kernel)
theorem ws_21 : Cond.selects RX6 yX6_bringBack yX6_bringBack ∈ gw := gw_s 21 (by decide +kernel) (by decide +kernel)
theorem ws_22 : Cond.selects RX6 yX6_countWalkedForGood yX6_countWalkedForGood ∈ gw := gw_s 22 (by decide +kernel) (by decide +kernel)
theorem ws_25 : Cond.selects RX7 yX7_note yX7_note ∈ gw := gw_s 25 (by decide +kernel) (by decide +kernel)
theorem ws_26 : Cond.selects RX7 yX7_becomes yX7_becomes ∈ gw := gw_s 26 (by decide +kernel) (by decide +kernel)
theorem ws_27 : Cond.selects RX7 yX7_isLooked yX7_isLooked ∈ gw := gw_s 27 (by decide +kernel) (by decide +kernel)
theorem ws_28 : Cond.selects RX7 yX7_drop yX7_drop ∈ gw := gw_s 28 (by decide +kernel) (by decide +kernel)
theorem ws_29 : Cond.selects RX7 yX7_keep yX7_keep ∈ gw := gw_s 29 (by decide +kernel) (by decide +kernel)
theorem ws_30 : Cond.selects RX7 yX7_find yX7_find ∈ gw := gw_s 30 (by decide +kernel) (by decide +kernel)
theorem ws_31 : Cond.selects RX7 yX7_behind yX7_behind ∈ gw := gw_s 31 (by decide +kernel) (by decide +kernel)
theorem ws_32 : Cond.selects RX7 yX7_other yX7_other ∈ gw := gw_s 32 (by decide +kernel) (by decide +kernel)
theorem ws_33 : Cond.selects RX7 yX7_isRoutine yX7_isRoutine ∈ gw := gw_s 33 (by decide +kernel) (by decide +kernel)
theorem ws_34 : Cond.selects RX7 yX7_countOf yX7_countOf ∈ gw := gw_s 34 (by decide +kernel) (by decide +kernel)
theorem ws_35 : Cond.selects RX7 yX7_act yX7_act ∈ gw := gw_s 35 (by decide +kernel) (by decide +kernel)
theorem ws_36 : Cond.selects RX7 yX7_calls yX7_calls ∈ gw := gw_s 36 (by decide +kernel) (by decide +kernel)
theorem ws_37 : Cond.selects RX7 yX7_works yX7_works ∈ gw := gw_s 37 (by decide +kernel) (by decide +kernel)
theorem ws_38 : Cond.selects RX7 yX7_changes yX7_changes ∈ gw := gw_s 38 (by decide +kernel) (by decide +kernel)
theorem ws_39 : Cond.selects RX7 yX7_returned yX7_returned ∈ gw := gw_s 39 (by decide +kernel) (by decide +kernel)
theorem ws_40 : Cond.selects RX7 yX7_isAsMade yX7_isAsMade ∈ gw := gw_s 40 (by decide +kernel) (by decide +kernel)
end
section
/-! THE SYSTEM'S CELLS BY NUMBERS. Cell o of 152 (in the order in which they are made) lies at the address ad o; what it holds is told by a state T: ints by (cell, place), longs by (cell, place). The references are fixed, but a routine's two. -/
abbrev St : Type := (Nat → Nat → Int32) × (Nat → Nat → Int64)
abbrev Gm : Type := va_G × (Nat → ClassId) × (Nat → Nat)
def ko (o : Nat) : Nat :=
  if o < 27 then [6, 1, 10, 10, 4, 10, 12, 2, 13, 10, 10, 10, 10, 10, 10, 10, 10, 10, 13, 10, 10, 10, 10, 3, 10, 10, 10].getD o 99
  else if o < 117 then [5, 3, 10, 10, 10, 3, 10, 10, 10].getD ((o - 27) % 9) 99
  else [0, 10, 10, 0, 4, 10, 10, 10, 0, 4, 10, 10, 10, 7, 10, 10, 11, 11, 11, 10, 10, 11, 11, 11, 10, 10, 10, 10, 10, 11, 11, 10, 10, 10, 14].getD (o - 117) 99
def len (o : Nat) : Nat :=
  if o < 27 then [0, 0, 256, 16, 0, 256, 10, 0, 9, 256, 256, 256, 256, 256, 256, 256, 256, 256, 4, 256, 256, 256, 256, 0, 24, 24, 24].getD o 0
  else if o < 117 then [0, 0, 24, 24, 24, 0, 24, 24, 24].getD ((o - 27) % 9) 0
  else [0, 6, 6, 0, 0, 256, 6, 6, 0, 0, 256, 6, 6, 0, 256, 10, 10, 2560, 2560, 2560, 10, 10, 2560, 2560, 2560, 1024, 2048, 256, 9, 256, 256, 256, 6, 6, 1].getD (o - 117) 0
def fk (c k : Nat) : Nat :=
  [[1, 1, 1, 1], [1, 1], [1], [1, 1, 1], [1, 1], [1, 1], [1, 1, 1, 1, 1, 1, 1, 1, 1],
   [0, 1, 0, 1, 1, 1, 1, 1, 1, 1, 1, 1, 1, 0, 0, 0, 0, 2, 2, 0, 1, 0, 1, 1, 1, 1, 1, 1, 1, 1]].getD c [] |>.getD k 0
def nf (c : Nat) : Nat := [16, 2, 3, 4, 6, 5, 16, 40].getD c 0
def mo (o : Nat) : Nat := if o = 117 then 4 else o + 1
def wi (o : Nat) : Nat := if o = 117 then 118 else o + 3
def mb (o : Nat) (e : Int32) : Nat := if e = 0 then o + 1 else o + 5
def rc (c o k : Nat) (e : Int32) : Nat :=
  if c = 0 then [mo o, 6, wi o, wi o + 1].getD k 0 else if c = 1 then 2 + k else if c = 2 then 8 else if c = 3 then o + 1 + k else if c = 4 then (if k = 0 then o + 1 else 1)
  else if c = 5 then mb o e else if c = 6 then [1, 4, 6, 7, 18, 117, 120, 125, 23].getD k 0
  else if c = 7 then [0, 131, 0, 132, 133, 134, 135, 136, 137, 138, 139, 140, 141, 0, 0, 0, 0, 0, 0, 0, 142, 0, 143, 144, 145, 146, 147, 148, 149, 150].getD k 0
  else if c = 12 then 27 + 9 * k else o + 1 + k
def fv (G : Gm) (T : St) (c o k : Nat) : Value := if fk c k = 1 then .ref (G.2.2 (rc c o k (T.1 o k))) else if fk c k = 2 then .long (T.2 o k) else .int (T.1 o k)
def pi (G : Gm) (T : St) (c o : Nat) : va_E :=
  if c < 8 then .inr (c, (List.range (nf c)).map (fv G T c o)) else if c = 10 then .inl (G.2.1 0, len o, .inl (T.1 o)) else if c = 11 then .inl (G.2.1 1, len o, .inl (T.1 o))
  else if c = 12 then .inl (G.2.1 2, len o, .inr (.inr (.inr (.inr (fun j => some (G.2.2 (rc 12 o j 0))))))) else if c = 13 then .inl (G.2.1 3, len o, .inr (.inr (.inr (.inr (fun j => some (G.2.2 (rc 13 o j 0)))))))
  else .inl (G.2.1 4, len o, .inr (.inl (T.2 o)))
def pic (G : Gm) (T : St) (o : Nat) : va_E := pi G T (ko o) o
def wd (G : Gm) (T : St) : va_W := (List.range 152).map (fun o => (G.2.2 o, pic G T o))
def sa (T : St) (o : Nat) (f : Nat → Int32) : St := (fun i => if i = o then f else T.1 i, T.2)
def sv (T : St) (o k : Nat) (v : Int32) : St := sa T o (upd (T.1 o) k v)
def sl (T : St) (o k : Nat) (v : Int64) : St := (T.1, fun i => if i = o then vp_updL (T.2 o) k v else T.2 i)
abbrev sc_cl : List vw_C := [(RX0, TX0, 16), (RX1, TX1, 2), (RX2, TX2, 3), (RX3, TX3, 4), (RX4, TX4, 6), (RX5, TX5, 5), (RX6, TX6, 16), (RX7, TX7, 40)]
abbrev tys (G : Gm) : List (ClassId × FieldType) := [(G.2.1 0, .int), (G.2.1 1, .boolean), (G.2.1 2, .object "SelfChange$Routine"), (G.2.1 3, .array .int), (G.2.1 4, .long)]
def nws : List (String × Nat × MethodName × String) := [(RX1, 27, yX6_lengthOf, RX6), (RX3, 44, yX6_isKind, RX6), (RX3, 47, yX6_lengthOf, RX6), (RX3, 51, yX6_canGoElsewhere, RX6), (RX3, 57, yX6_hasOperand, RX6), (RX0, 113, yX6_isKind, RX6), (RX0, 117, yX6_lengthOf, RX6), (RX0, 126, yX6_canGoElsewhere, RX6)]
def NW (U : State) : Prop := ∀ w ∈ nws, va_Nw (.methodLinkNest w.1 w.2.1 w.2.2.1 w.2.2.2) U
def SA (G : Gm) (q : Nat) : Prop := ∃ i, i < 152 ∧ q = G.2.2 i
def Inj (G : Gm) : Prop := ∀ i j, i < 152 → j < 152 → G.2.2 i = G.2.2 j → i = j
def Sy (G : Gm) (T : St) (U : State) : Prop := va_P G.1 sc_cl (wd G T) U.heap ∧ va_K G.1 sc_cl (tys G) U ∧ NW U
theorem NW.warm {s U : State} (hW : s.WarmedH U.vm) (h : NW s) : NW U := fun w hw => va_Nw.warmM hW (h w hw)
theorem NW.same {s U : State} (hW : s.vm = U.vm) (h : NW s) : NW U := fun w hw => va_Nw.same rfl hW (h w hw)
theorem Sy.to {G : Gm} {T : St} {s t : State} {H : Heap} (hP : va_P G.1 sc_cl (wd G T) H) (hK : va_K G.1 sc_cl (tys G) s) (hN : NW s) (ht : t.heap = H) (hW : s.WarmedH t.vm) : Sy G T t := ⟨by rw [ht]; exact hP, va_K.moved hW.alike hK, hN.warm hW⟩
theorem Sy.blind {G : Gm} {T : St} {av : List Value} : FrameBlind (va_Pc av (Sy G T)) := fun a U g mk h => ⟨h.1, h.2.1, va_K.moved (u := U) (U := U.calling g mk a) (Vm.Alike.refl U.vm) h.2.2.1, NW.same (s := U) (U := U.calling g mk a) rfl h.2.2.2⟩
theorem ko_out {o : Nat} (h : 152 ≤ o) : ko o = 99 := by
  unfold ko
  rw [if_neg (by omega), if_neg (by omega)]
  rw [List.getD_eq_getElem?_getD, List.getElem?_eq_none (by simp; omega)]
  rfl
theorem ko_lt {o c : Nat} (h : ko o = c) (hc : c ≠ 99) : o < 152 := by
  rcases Nat.lt_or_ge o 152 with q | q
  · exact q
  · exact absurd ((ko_out q).symm.trans h).symm hc
theorem wd_at (G : Gm) (T : St) {o c : Nat} (h : ko o = c) (hc : c ≠ 99) : (wd G T)[o]? = some (G.2.2 o, pi G T c o) := by
  have hl := ko_lt h hc
  simp [wd, hl, pic, h]
theorem wd_set (G : Gm) (T T' : St) {o c : Nat} {e : va_E} (h : ko o = c) (hc : c ≠ 99) (he : pi G T' c o = e) (hn : ∀ i, i ≠ o → pic G T' i = pic G T i) : (wd G T).set o (G.2.2 o, e) = wd G T' := by
  have hl := ko_lt h hc
  apply List.ext_getElem?
  intro k
  by_cases hk : k = o
  · subst hk
    rw [List.getElem?_set_self (by simp [wd, hl]), wd_at G T' h hc, he]
  · rw [List.getElem?_set_ne (Ne.symm hk)]
    unfold wd
    rw [List.getElem?_map, List.getElem?_map]
    cases hr : (List.range 152)[k]? with
    | none => rfl
    | some j =>
      have : j = k := by
        obtain ⟨h1, h2⟩ := List.getElem?_eq_some_iff.mp hr
        simpa using h2.symm
      subst this
      simp [hn j hk]
theorem fv_eq {G : Gm} {T T' : St} {c i : Nat} (h1 : T'.1 i = T.1 i) (h2 : T'.2 i = T.2 i) : fv G T' c i = fv G T c i := by
  funext k
  simp only [fv, h1, h2]
theorem pic_eq {G : Gm} {T T' : St} {i : Nat} (h1 : T'.1 i = T.1 i) (h2 : T'.2 i = T.2 i) : pic G T' i = pic G T i := by
  simp only [pic, pi, fv_eq h1 h2, h1, h2]
theorem pic_sa {G : Gm} {T : St} {o i : Nat} {f : Nat → Int32} (h : i ≠ o) : pic G (sa T o f) i = pic G T i := pic_eq (if_neg h) rfl
theorem pic_sl {G : Gm} {T : St} {o k i : Nat} {v : Int64} (h : i ≠ o) : pic G (sl T o k v) i = pic G T i := pic_eq rfl (if_neg h)
theorem rm_set {α : Type} {n k : Nat} {g g' : Nat → α} {x : α} (hx : g' k = x) (h : ∀ j, j ≠ k → g' j = g j) : ((List.range n).map g).set k x = (List.range n).map g' := by
  apply List.ext_getElem?
  intro j
  by_cases hj : j = k
  · subst hj
    by_cases hl : j < n
    · rw [List.getElem?_set_self (by simpa using hl)]; simp [hl, hx]
    · simp [hl]
  · rw [List.getElem?_set_ne (Ne.symm hj), List.getElem?_map, List.getElem?_map]
    cases hr : (List.range n)[j]? with
    | none => rfl
    | some i =>
      have : i = j := by
        obtain ⟨h1, h2⟩ := List.getElem?_eq_some_iff.mp hr
        simpa using h2.symm
      subst this
      simp [h i hj]
theorem pi_obj {G : Gm} {T : St} {c o : Nat} (h : c < 8) : pi G T c o = .inr (c, (List.range (nf c)).map (fv G T c o)) := if_pos h
theorem sv_at {T : St} {o k j : Nat} {v : Int32} : (sv T o k v).1 o j = if j = k then v else T.1 o j := by simp [sv, sa, upd]
theorem fv_ne {G : Gm} {T : St} {c o k j : Nat} {v : Int32} (h : j ≠ k) : fv G (sv T o k v) c o j = fv G T c o j := by simp [fv, sv_at, h]; simp [sv, sa]
theorem fv_nel {G : Gm} {T : St} {c o k j : Nat} {v : Int64} (h : j ≠ k) : fv G (sl T o k v) c o j = fv G T c o j := by simp [fv, sl, vp_updL, h]
theorem wd_D {G : Gm} (hi : Inj G) (T : St) : va_D (SA G) (wd G T) := by
  have key : ∀ (k : Nat) (q : Nat × va_E), (wd G T)[k]? = some q → k < 152 ∧ q.1 = G.2.2 k := by
    intro k q h
    unfold wd at h
    rw [List.getElem?_map] at h
    cases hr : (List.range 152)[k]? with
    | none => rw [hr] at h; cases h
    | some j =>
      rw [hr] at h
      obtain ⟨h1, h2⟩ := List.getElem?_eq_some_iff.mp hr
      have h3 : k = j := by simpa using h2
      subst h3
      cases h
      exact ⟨by simpa using h1, rfl⟩
  refine ⟨fun i j p q h1 h2 h3 => ?_, fun k q h => ?_⟩
  · obtain ⟨a1, a2⟩ := key i p h1
    obtain ⟨b1, b2⟩ := key j q h2
    exact hi i j a1 b1 (by rw [← a2, ← b2, h3])
  · obtain ⟨a1, a2⟩ := key k q h
    exact ⟨k, a1, a2⟩
theorem gw_ps {ws : List Cond} (ps : List Nat) (h : ws = ps.filterMap (fun i => tables_1[i]?)) (hg : ws.all goodWord = true) : ∀ w ∈ ws, w ∈ gw := fun w hw => by
  have h1 := List.all_eq_true.mp hg w hw
  rw [h] at hw
  obtain ⟨i, -, hi⟩ := List.mem_filterMap.mp hw
  exact gw_t i hi h1
theorem gx_0 : ∀ w ∈ u_ws RX0 TX0 16, w ∈ gw := gw_ps [188, 190, 192, 194, 196, 198, 200, 202, 204, 206, 208, 210, 212, 214, 216, 218] (by decide +kernel) (by decide +kernel)
theorem gx_1 : ∀ w ∈ u_ws RX1 TX1 2, w ∈ gw := gw_ps [40, 42] (by decide +kernel) (by decide +kernel)
theorem gx_2 : ∀ w ∈ u_ws RX2 TX2 3, w ∈ gw := gw_ps [93, 95, 97] (by decide +kernel) (by decide +kernel)
theorem gx_3 : ∀ w ∈ u_ws RX3 TX3 4, w ∈ gw := gw_ps [118, 120, 122, 124] (by decide +kernel) (by decide +kernel)
theorem gx_4 : ∀ w ∈ u_ws RX4 TX4 6, w ∈ gw := gw_ps [66, 68, 70, 72, 74, 76] (by decide +kernel) (by decide +kernel)
theorem gx_5 : ∀ w ∈ u_ws RX5 TX5 5, w ∈ gw := gw_ps [145, 147, 149, 151, 153] (by decide +kernel) (by decide +kernel)
theorem gx_6 : ∀ w ∈ u_ws RX6 TX6 16, w ∈ gw := gw_ps [237, 239, 241, 243, 245, 247, 249, 251, 253, 255, 257, 259, 261, 263, 265, 267] (by decide +kernel) (by decide +kernel)
theorem gx_7 : ∀ w ∈ u_ws RX7 TX7 40, w ∈ gw := gw_ps [783, 785, 787, 789, 791, 793, 795, 797, 799, 801, 803, 805, 807, 809, 811, 813, 815, 817, 819, 821, 823, 825, 827, 829, 831, 833, 835, 837, 839, 841, 843, 845, 847, 849, 851, 853, 855, 857, 859, 861] (by decide +kernel) (by decide +kernel)
theorem cl_in {c : Nat} {r : vw_C} (h : sc_cl[c]? = some r) : ∀ w ∈ u_ws r.1 r.2.1 r.2.2, w ∈ gw := by
  match c, h with
  | 0, h => cases h; exact gx_0
  | 1, h => cases h; exact gx_1
  | 2, h => cases h; exact gx_2
  | 3, h => cases h; exact gx_3
  | 4, h => cases h; exact gx_4
  | 5, h => cases h; exact gx_5
  | 6, h => cases h; exact gx_6
  | 7, h => cases h; exact gx_7
  | c + 8, h => simp [sc_cl] at h
def tyc (c : Nat) : Nat → FieldType := [tyX0, tyX1, tyX2, tyX3, tyX4, tyX5, tyX6, tyX7].getD c tyX0
theorem cl_ty {c : Nat} {r : vw_C} (h : sc_cl[c]? = some r) : ∀ k, k < r.2.2 → parseFieldDescriptor (r.2.1 k).2.2.1 = some (tyc c k) := by
  match c, h with
  | 0, h => cases h; exact tyX0_ok
  | 1, h => cases h; exact tyX1_ok
  | 2, h => cases h; exact tyX2_ok
  | 3, h => cases h; exact tyX3_ok
  | 4, h => cases h; exact tyX4_ok
  | 5, h => cases h; exact tyX5_ok
  | 6, h => cases h; exact tyX6_ok
  | 7, h => cases h; exact tyX7_ok
  | c + 8, h => simp [sc_cl] at h
theorem cl_nm {c : Nat} {r : vw_C} (h : sc_cl[c]? = some r) : ∀ a, a < r.2.2 → ∀ b, b < r.2.2 → a ≠ b → (r.2.1 a).2.1 ≠ (r.2.1 b).2.1 := by
  match c, h with
  | 0, h => cases h; exact nmX0
  | 1, h => cases h; exact nmX1
  | 2, h => cases h; exact nmX2
  | 3, h => cases h; exact nmX3
  | 4, h => cases h; exact nmX4
  | 5, h => cases h; exact nmX5
  | 6, h => cases h; exact nmX6
  | 7, h => cases h; exact nmX7
  | c + 8, h => simp [sc_cl] at h
theorem cl_nf {c : Nat} {r : vw_C} (h : sc_cl[c]? = some r) : c < 8 ∧ nf c = r.2.2 := by
  match c, h with
  | 0, h => cases h; exact ⟨by decide, rfl⟩
  | 1, h => cases h; exact ⟨by decide, rfl⟩
  | 2, h => cases h; exact ⟨by decide, rfl⟩
  | 3, h => cases h; exact ⟨by decide, rfl⟩
  | 4, h => cases h; exact ⟨by decide, rfl⟩
  | 5, h => cases h; exact ⟨by decide, rfl⟩
  | 6, h => cases h; exact ⟨by decide, rfl⟩
  | 7, h => cases h; exact ⟨by decide, rfl⟩
  | c + 8, h => simp [sc_cl] at h
/-- what a walk stands on -/
def Cx (p : Program) (s : State) (m : MethodId) (args : Array Value) (c : Code) (cc : ByteArray) (nL : Nat) (own : String) (G : Gm) : Prop :=
  p.tables.exec = Jvm.exec ∧ c.code = cc ∧ c.maxLocals = nL ∧ s.vm.findClass own = some m.cls ∧ (∀ w ∈ gw, w.before args s = true) ∧ va_K G.1 sc_cl (tys G) s ∧ NW s ∧ Inj G
section SY
variable {p : Program} {l : Launch} {e : Env} {R : Room} {s : State} {m : MethodId} {args : Array Value} {below : List Frame} {meth : Method} {c : Code} {H H0 : Heap} {locs : List Loc} {cells slots : Nat} {Q : State → Prop} {A : Nat → Prop}
variable {cc : ByteArray} {pc nL : Nat} {ls : Array Slot} {rest : List Value} {own : String} {G : Gm} {T : St}
/-- getfield: an int -/
theorem sy_geti (C : Cx p s m args c cc nL own G) (hP : va_P G.1 sc_cl (wd G T) H) {o ci : Nat} {r : vw_C} (ho : ko o = ci) (hc : sc_cl[ci]? = some r) (k : Nat) (hk : k < r.2.2) (hd : (r.2.1 k).1 = r.1) (hf : fk ci k = 0) {ix : Nat} (hl : Cond.fieldLink own ix r.1 (r.2.1 k).2.1 (r.2.1 k).2.2.1 ∈ gw) (hdg : decode cc pc = .ok (.getfield ix, 3))
    (kk : W p l e R s m args below meth c H locs cells slots Q (F0 m (pc + 3) ls (.int (T.1 o k) :: rest))) : W p l e R s m args below meth c H locs cells slots Q (F0 m pc ls (.ref (G.2.2 o) :: rest)) := by
  obtain ⟨hx, hb, -, hown, hg, hK, -, -⟩ := C
  obtain ⟨h8, hnf⟩ := cl_nf hc
  obtain ⟨C0, T0, N0⟩ := r
  refine va_get (D := G.1) (v := .int (T.1 o k)) (C := C0) (T := T0) (N := N0) hx hb hg (cl_in hc) hown hK hP o (by rw [wd_at G T ho (by omega), pi_obj h8]) hc k hk (hg _ hl) (fun _ h => by rw [← show (T0 k).1 = C0 from hd]; exact h) ?_ hdg kk
  simp [hnf, hk, fv, hf, show k < N0 from hk]
theorem sy_getl (C : Cx p s m args c cc nL own G) (hP : va_P G.1 sc_cl (wd G T) H) {o ci : Nat} {r : vw_C} (ho : ko o = ci) (hc : sc_cl[ci]? = some r) (k : Nat) (hk : k < r.2.2) (hd : (r.2.1 k).1 = r.1) (hf : fk ci k = 2) {ix : Nat} (hl : Cond.fieldLink own ix r.1 (r.2.1 k).2.1 (r.2.1 k).2.2.1 ∈ gw) (hdg : decode cc pc = .ok (.getfield ix, 3))
    (kk : W p l e R s m args below meth c H locs cells slots Q (F0 m (pc + 3) ls (.long (T.2 o k) :: rest))) : W p l e R s m args below meth c H locs cells slots Q (F0 m pc ls (.ref (G.2.2 o) :: rest)) := by
  obtain ⟨hx, hb, -, hown, hg, hK, -, -⟩ := C
  obtain ⟨h8, hnf⟩ := cl_nf hc
  obtain ⟨C0, T0, N0⟩ := r
  refine va_get (D := G.1) (v := .long (T.2 o k)) (C := C0) (T := T0) (N := N0) hx hb hg (cl_in hc) hown hK hP o (by rw [wd_at G T ho (by omega), pi_obj h8]) hc k hk (hg _ hl) (fun _ h => by rw [← show (T0 k).1 = C0 from hd]; exact h) ?_ hdg kk
  simp [hnf, hk, fv, hf, show k < N0 from hk]
theorem sy_getr (C : Cx p s m args c cc nL own G) (hP : va_P G.1 sc_cl (wd G T) H) {o ci : Nat} {r : vw_C} (ho : ko o = ci) (hc : sc_cl[ci]? = some r) (k : Nat) (hk : k < r.2.2) (hd : (r.2.1 k).1 = r.1) (hf : fk ci k = 1) {j : Nat} (hj : rc ci o k (T.1 o k) = j) {ix : Nat} (hl : Cond.fieldLink own ix r.1 (r.2.1 k).2.1 (r.2.1 k).2.2.1 ∈ gw) (hdg : decode cc pc = .ok (.getfield ix, 3))
    (kk : W p l e R s m args below meth c H locs cells slots Q (F0 m (pc + 3) ls (.ref (G.2.2 j) :: rest))) : W p l e R s m args below meth c H locs cells slots Q (F0 m pc ls (.ref (G.2.2 o) :: rest)) := by
  subst hj
  obtain ⟨hx, hb, -, hown, hg, hK, -, -⟩ := C
  obtain ⟨h8, hnf⟩ := cl_nf hc
  obtain ⟨C0, T0, N0⟩ := r
  refine va_get (D := G.1) (v := .ref (G.2.2 (rc ci o k (T.1 o k)))) (C := C0) (T := T0) (N := N0) hx hb hg (cl_in hc) hown hK hP o (by rw [wd_at G T ho (by omega), pi_obj h8]) hc k hk (hg _ hl) (fun _ h => by rw [← show (T0 k).1 = C0 from hd]; exact h) ?_ hdg kk
  simp [hnf, hk, fv, hf, show k < N0 from hk]
/-- putfield: an int (or boolean) -/
theorem sy_puti (C : Cx p s m args c cc nL own G) (hP : va_P G.1 sc_cl (wd G T) H) (hS : va_S A H0 H locs) (hA : ∀ q, SA G q → A q) {o ci : Nat} {r : vw_C} (ho : ko o = ci) (hc : sc_cl[ci]? = some r) (k : Nat) (hk : k < r.2.2) (hd : (r.2.1 k).1 = r.1) (hf : fk ci k = 0) {ix : Nat} (hl : Cond.fieldLink own ix r.1 (r.2.1 k).2.1 (r.2.1 k).2.2.1 ∈ gw) (hfin : (r.2.1 k).2.2.2 = false) {v : Int32} (hn : narrow (tyc ci k) (.int v) = .int v) (hfit : fits (tyc ci k) (.int v) = true) (hdg : decode cc pc = .ok (.putfield ix, 3))
    (kk : ∀ (H : Heap) (locs : List Loc), va_P G.1 sc_cl (wd G (sv T o k v)) H → va_S A H0 H locs → W p l e R s m args below meth c H locs cells slots Q (F0 m (pc + 3) ls rest)) : W p l e R s m args below meth c H locs cells slots Q (F0 m pc ls (.int v :: .ref (G.2.2 o) :: rest)) := by
  obtain ⟨hx, hb, -, hown, hg, hK, -, hi⟩ := C
  obtain ⟨h8, hnf⟩ := cl_nf hc
  obtain ⟨C0, T0, N0⟩ := r
  have hD : va_D A (wd G T) := (wd_D hi T).weaken (fun _ _ _ h => hA _ h)
  refine va_put (D := G.1) (v := .int v) (ty := tyc ci k) (C := C0) (T := T0) (N := N0) hx hb hg (cl_in hc) (tyc ci) (cl_ty hc) (cl_nm hc) hown hK hP hD hS o (by rw [wd_at G T ho (by omega), pi_obj h8]) hc k hk (hg _ hl) (fun _ h => by rw [← show (T0 k).1 = C0 from hd]; exact h) hfin (cl_ty hc k hk) hn hfit (by simp [hnf]; exact hk) hdg (fun H1 locs1 hP1 _ hS1 => kk H1 locs1 ?_ hS1)
  rw [wd_set G T (sv T o k v) ho (by omega) (e := .inr (ci, ((List.range (nf ci)).map (fv G T ci o)).set k (.int v))) (by rw [pi_obj h8, rm_set (g' := fv G (sv T o k v) ci o) (by simp [fv, hf, sv_at]) (fun j hj => fv_ne hj)]) (fun i hi => pic_sa hi)] at hP1
  exact hP1
theorem sy_putl (C : Cx p s m args c cc nL own G) (hP : va_P G.1 sc_cl (wd G T) H) (hS : va_S A H0 H locs) (hA : ∀ q, SA G q → A q) {o ci : Nat} {r : vw_C} (ho : ko o = ci) (hc : sc_cl[ci]? = some r) (k : Nat) (hk : k < r.2.2) (hd : (r.2.1 k).1 = r.1) (hf : fk ci k = 2) {ix : Nat} (hl : Cond.fieldLink own ix r.1 (r.2.1 k).2.1 (r.2.1 k).2.2.1 ∈ gw) (hfin : (r.2.1 k).2.2.2 = false) {v : Int64} (hn : narrow (tyc ci k) (.long v) = .long v) (hfit : fits (tyc ci k) (.long v) = true) (hdg : decode cc pc = .ok (.putfield ix, 3))
    (kk : ∀ (H : Heap) (locs : List Loc), va_P G.1 sc_cl (wd G (sl T o k v)) H → va_S A H0 H locs → W p l e R s m args below meth c H locs cells slots Q (F0 m (pc + 3) ls rest)) : W p l e R s m args below meth c H locs cells slots Q (F0 m pc ls (.long v :: .ref (G.2.2 o) :: rest)) := by
  obtain ⟨hx, hb, -, hown, hg, hK, -, hi⟩ := C
  obtain ⟨h8, hnf⟩ := cl_nf hc
  obtain ⟨C0, T0, N0⟩ := r
  have hD : va_D A (wd G T) := (wd_D hi T).weaken (fun _ _ _ h => hA _ h)
  refine va_put (D := G.1) (v := .long v) (ty := tyc ci k) (C := C0) (T := T0) (N := N0) hx hb hg (cl_in hc) (tyc ci) (cl_ty hc) (cl_nm hc) hown hK hP hD hS o (by rw [wd_at G T ho (by omega), pi_obj h8]) hc k hk (hg _ hl) (fun _ h => by rw [← show (T0 k).1 = C0 from hd]; exact h) hfin (cl_ty hc k hk) hn hfit (by simp [hnf]; exact hk) hdg (fun H1 locs1 hP1 _ hS1 => kk H1 locs1 ?_ hS1)
  rw [wd_set G T (sl T o k v) ho (by omega) (e := .inr (ci, ((List.range (nf ci)).map (fv G T ci o)).set k (.long v))) (by rw [pi_obj h8, rm_set (g' := fv G (sl T o k v) ci o) (by simp [fv, hf, sl, vp_updL]) (fun j hj => fv_nel hj)]) (fun i hi => pic_sl hi)] at hP1
  exact hP1
/-- putfield: one of a routine's two references -/
theorem sy_putm (C : Cx p s m args c cc nL own G) (hP : va_P G.1 sc_cl (wd G T) H) (hS : va_S A H0 H locs) (hA : ∀ q, SA G q → A q) {o : Nat} {r : vw_C} (ho : ko o = 5) (hc : sc_cl[5]? = some r) (k : Nat) (hk : k < r.2.2) (hd : (r.2.1 k).1 = r.1) (hf : fk 5 k = 1) {ix : Nat} (hl : Cond.fieldLink own ix r.1 (r.2.1 k).2.1 (r.2.1 k).2.2.1 ∈ gw) (hfin : (r.2.1 k).2.2.2 = false) {v : Int32} (hn : ∀ a, narrow (tyc 5 k) (.ref a) = .ref a) (hfit : ∀ a, fits (tyc 5 k) (.ref a) = true) (hdg : decode cc pc = .ok (.putfield ix, 3))
    (kk : ∀ (H : Heap) (locs : List Loc), va_P G.1 sc_cl (wd G (sv T o k v)) H → va_S A H0 H locs → W p l e R s m args below meth c H locs cells slots Q (F0 m (pc + 3) ls rest)) : W p l e R s m args below meth c H locs cells slots Q (F0 m pc ls (.ref (G.2.2 (mb o v)) :: .ref (G.2.2 o) :: rest)) := by
  obtain ⟨hx, hb, -, hown, hg, hK, -, hi⟩ := C
  obtain ⟨h8, hnf⟩ := cl_nf hc
  obtain ⟨C0, T0, N0⟩ := r
  have hD : va_D A (wd G T) := (wd_D hi T).weaken (fun _ _ _ h => hA _ h)
  refine va_put (D := G.1) (v := .ref (G.2.2 (mb o v))) (ty := tyc 5 k) (C := C0) (T := T0) (N := N0) hx hb hg (cl_in hc) (tyc 5) (cl_ty hc) (cl_nm hc) hown hK hP hD hS o (by rw [wd_at G T ho (by omega), pi_obj h8]) hc k hk (hg _ hl) (fun _ h => by rw [← show (T0 k).1 = C0 from hd]; exact h) hfin (cl_ty hc k hk) (hn _) (hfit _) (by simp [hnf]; exact hk) hdg (fun H1 locs1 hP1 _ hS1 => kk H1 locs1 ?_ hS1)
  rw [wd_set G T (sv T o k v) ho (by omega) (e := .inr (5, ((List.range (nf 5)).map (fv G T 5 o)).set k (.ref (G.2.2 (mb o v))))) (by rw [pi_obj h8, rm_set (g' := fv G (sv T o k v) 5 o) (by simp [fv, hf, sv_at, rc]) (fun j hj => fv_ne hj)]) (fun i hi => pic_sa hi)] at hP1
  exact hP1
/-- arrays of ints -/
theorem sy_iald (C : Cx p s m args c cc nL own G) (hP : va_P G.1 sc_cl (wd G T) H) {o n : Nat} (ho : ko o = 10) (hn : len o = n) {i : Int32} (hin : vp_in i n) (hdg : decode cc pc = .ok (.iaload, 1))
    (kk : W p l e R s m args below meth c H locs cells slots Q (F0 m (pc + 1) ls (.int (T.1 o i.toNatClampNeg) :: rest))) : W p l e R s m args below meth c H locs cells slots Q (F0 m pc ls (.int i :: .ref (G.2.2 o) :: rest)) :=
  va_iald C.1 C.2.1 C.2.2.2.2.2.1 hP o 0 (n := n) (by rw [wd_at G T ho (by omega), ← hn]; rfl) rfl hin hdg kk
theorem sy_zald (C : Cx p s m args c cc nL own G) (hP : va_P G.1 sc_cl (wd G T) H) {o n : Nat} (ho : ko o = 11) (hn : len o = n) {i : Int32} (hin : vp_in i n) (hdg : decode cc pc = .ok (.baload, 1))
    (kk : W p l e R s m args below meth c H locs cells slots Q (F0 m (pc + 1) ls (.int (T.1 o i.toNatClampNeg) :: rest))) : W p l e R s m args below meth c H locs cells slots Q (F0 m pc ls (.int i :: .ref (G.2.2 o) :: rest)) :=
  va_zald C.1 C.2.1 C.2.2.2.2.2.1 hP o 1 (n := n) (by rw [wd_at G T ho (by omega), ← hn]; rfl) rfl hin hdg kk
theorem sy_lald (C : Cx p s m args c cc nL own G) (hP : va_P G.1 sc_cl (wd G T) H) {o n : Nat} (ho : ko o = 14) (hn : len o = n) {i : Int32} (hin : vp_in i n) (hdg : decode cc pc = .ok (.laload, 1))
    (kk : W p l e R s m args below meth c H locs cells slots Q (F0 m (pc + 1) ls (.long (T.2 o i.toNatClampNeg) :: rest))) : W p l e R s m args below meth c H locs cells slots Q (F0 m pc ls (.int i :: .ref (G.2.2 o) :: rest)) :=
  va_lald C.1 C.2.1 C.2.2.2.2.2.1 hP o 4 (n := n) (by rw [wd_at G T ho (by omega), ← hn]; rfl) rfl hin hdg kk
theorem sy_iast (C : Cx p s m args c cc nL own G) (hP : va_P G.1 sc_cl (wd G T) H) (hS : va_S A H0 H locs) (hA : ∀ q, SA G q → A q) {o n : Nat} (ho : ko o = 10) (hn : len o = n) {i x : Int32} (hin : vp_in i n) (hdg : decode cc pc = .ok (.iastore, 1))
    (kk : ∀ (H : Heap) (locs : List Loc), va_P G.1 sc_cl (wd G (sv T o i.toNatClampNeg x)) H → va_S A H0 H locs → W p l e R s m args below meth c H locs cells slots Q (F0 m (pc + 1) ls rest)) : W p l e R s m args below meth c H locs cells slots Q (F0 m pc ls (.int x :: .int i :: .ref (G.2.2 o) :: rest)) := by
  have hD : va_D A (wd G T) := (wd_D C.2.2.2.2.2.2.2 T).weaken (fun _ _ _ h => hA _ h)
  refine va_iast C.1 C.2.1 C.2.2.2.2.2.1 hP hD hS o 0 (n := n) (f := T.1 o) (by rw [wd_at G T ho (by omega), ← hn]; rfl) rfl hin hdg (fun H1 locs1 hP1 _ hS1 => kk H1 locs1 ?_ hS1)
  rw [wd_set G T (sv T o i.toNatClampNeg x) ho (by omega) (by rw [← hn]; simp [pi, sv, sa]) (fun i hi => pic_sa hi)] at hP1
  exact hP1
theorem sy_zast (C : Cx p s m args c cc nL own G) (hP : va_P G.1 sc_cl (wd G T) H) (hS : va_S A H0 H locs) (hA : ∀ q, SA G q → A q) {o n : Nat} (ho : ko o = 11) (hn : len o = n) {i x : Int32} (hin : vp_in i n) (hdg : decode cc pc = .ok (.bastore, 1))
    (kk : ∀ (H : Heap) (locs : List Loc), va_P G.1 sc_cl (wd G (sv T o i.toNatClampNeg (vp_nar .boolean x))) H → va_S A H0 H locs → W p l e R s m args below meth c H locs cells slots Q (F0 m (pc + 1) ls rest)) : W p l e R s m args below meth c H locs cells slots Q (F0 m pc ls (.int x :: .int i :: .ref (G.2.2 o) :: rest)) := by
  have hD : va_D A (wd G T) := (wd_D C.2.2.2.2.2.2.2 T).weaken (fun _ _ _ h => hA _ h)
  refine va_zast C.1 C.2.1 C.2.2.2.2.2.1 hP hD hS o 1 (n := n) (f := T.1 o) (by rw [wd_at G T ho (by omega), ← hn]; rfl) rfl hin hdg (fun H1 locs1 hP1 _ hS1 => kk H1 locs1 ?_ hS1)
  rw [wd_set G T (sv T o i.toNatClampNeg (vp_nar .boolean x)) ho (by omega) (by rw [← hn]; simp [pi, sv, sa]) (fun i hi => pic_sa hi)] at hP1
  exact hP1
theorem sy_last (C : Cx p s m args c cc nL own G) (hP : va_P G.1 sc_cl (wd G T) H) (hS : va_S A H0 H locs) (hA : ∀ q, SA G q → A q) {o n : Nat} (ho : ko o = 14) (hn : len o = n) {i : Int32} {x : Int64} (hin : vp_in i n) (hdg : decode cc pc = .ok (.lastore, 1))
    (kk : ∀ (H : Heap) (locs : List Loc), va_P G.1 sc_cl (wd G (sl T o i.toNatClampNeg x)) H → va_S A H0 H locs → W p l e R s m args below meth c H locs cells slots Q (F0 m (pc + 1) ls rest)) : W p l e R s m args below meth c H locs cells slots Q (F0 m pc ls (.long x :: .int i :: .ref (G.2.2 o) :: rest)) := by
  have hD : va_D A (wd G T) := (wd_D C.2.2.2.2.2.2.2 T).weaken (fun _ _ _ h => hA _ h)
  refine va_last C.1 C.2.1 C.2.2.2.2.2.1 hP hD hS o 4 (n := n) (f := T.2 o) (by rw [wd_at G T ho (by omega), ← hn]; rfl) rfl hin hdg (fun H1 locs1 hP1 _ hS1 => kk H1 locs1 ?_ hS1)
  rw [wd_set G T (sl T o i.toNatClampNeg x) ho (by omega) (by rw [← hn]; simp [pi, sl]) (fun i hi => pic_sl hi)] at hP1
  exact hP1
theorem sy_alen (C : Cx p s m args c cc nL own G) (hP : va_P G.1 sc_cl (wd G T) H) {o n : Nat} (ho : ko o = 10) (hn : len o = n) {v : Int32} (hv : Int32.ofNat n = v) (hdg : decode cc pc = .ok (.arraylength, 1))
    (kk : W p l e R s m args below meth c H locs cells slots Q (F0 m (pc + 1) ls (.int v :: rest))) : W p l e R s m args below meth c H locs cells slots Q (F0 m pc ls (.ref (G.2.2 o) :: rest)) :=
  va_alen C.1 C.2.1 C.2.2.2.2.2.1 hP o 0 (x := (n, .inl (T.1 o))) (by rw [wd_at G T ho (by omega), ← hn]; rfl) rfl hv hdg kk
/-- arrays of references: of routines, of rows -/
theorem sy_aldR (C : Cx p s m args c cc nL own G) (hP : va_P G.1 sc_cl (wd G T) H) {i : Int32} (hin : vp_in i 10) (hdg : decode cc pc = .ok (.aaload, 1))
    (kk : W p l e R s m args below meth c H locs cells slots Q (F0 m (pc + 1) ls (.ref (G.2.2 (27 + 9 * i.toNatClampNeg)) :: rest))) : W p l e R s m args below meth c H locs cells slots Q (F0 m pc ls (.int i :: .ref (G.2.2 6) :: rest)) :=
  va_aldq C.1 C.2.1 C.2.2.2.2.2.1 hP 6 2 (n := 10) (f := fun j => some (G.2.2 (rc 12 6 j 0))) (by rw [wd_at G T (c := 12) rfl (by omega)]; rfl) rfl hin hdg kk
theorem sy_aldG (C : Cx p s m args c cc nL own G) (hP : va_P G.1 sc_cl (wd G T) H) {o n : Nat} (ho : ko o = 13) (hn : len o = n) {i : Int32} (hin : vp_in i n) (hdg : decode cc pc = .ok (.aaload, 1))
    (kk : W p l e R s m args below meth c H locs cells slots Q (F0 m (pc + 1) ls (.ref (G.2.2 (o + 1 + i.toNatClampNeg)) :: rest))) : W p l e R s m args below meth c H locs cells slots Q (F0 m pc ls (.int i :: .ref (G.2.2 o) :: rest)) := by
  have hlt : i.toNatClampNeg < n := Nat.not_le.mp fun q => hin (Or.inr q)
  have ha : (wd G T)[o]? = some (G.2.2 o, .inl (G.2.1 3, n, .inr (.inr (.inr (.inr (fun j => some (G.2.2 (rc 13 o j 0)))))))) := by rw [wd_at G T ho (by omega), ← hn]; rfl
  exact W.aald (v := va_rf (some (G.2.2 (rc 13 o i.toNatClampNeg 0)))) (ty := .array .int) C.1 C.2.1 (hP o _ ha) ((C.2.2.2.2.2.1.2 3 _ rfl).1 n (fun j => va_rf (some (G.2.2 (rc 13 o j 0))))) rfl (fun q => by cases q) (by show ¬ (i < 0 ∨ (arrV _ _ _).slots.size ≤ _); rw [arrV_size]; exact hin) (by show (arrV _ _ _).slots[_]? = _; rw [arrV_read _ _ hlt]) rfl rfl hdg kk
/-- the ends -/
theorem sy_iret {post : Int32 → St → Prop} {v : Int32} (C : Cx p s m args c cc nL own G) (hr : meth.sig.returnType = some .int) (hlocks : meth.locks = false) (hP : va_P G.1 sc_cl (wd G T) H) (hS : va_S (SA G) s.heap H locs) (hp : post v T) (hdg : decode cc pc = .ok (.ireturn, 1)) : W p l e R s m args below meth c H locs 0 0 (MQ below (va_Qi post (Sy G) (SA G)) args s 0 0 (SA G)) (F0 m pc ls [.int v]) :=
  W.iret C.1 C.2.1 hr (fun t ht hW => ⟨⟨v, T, rfl, hp, Sy.to hP C.2.2.2.2.2.1 C.2.2.2.2.2.2.1 ht hW⟩, hS.F ht⟩) hS.2.2 hdg hlocks
theorem sy_zret {post : Int32 → St → Prop} {v : Int32} (C : Cx p s m args c cc nL own G) (hr : meth.sig.returnType = some .boolean) (hlocks : meth.locks = false) (hP : va_P G.1 sc_cl (wd G T) H) (hS : va_S (SA G) s.heap H locs) (hn : narrow .boolean (.int v) = .int v) (hp : post v T) (hdg : decode cc pc = .ok (.ireturn, 1)) : W p l e R s m args below meth c H locs 0 0 (MQ below (va_Qi post (Sy G) (SA G)) args s 0 0 (SA G)) (F0 m pc ls [.int v]) :=
  W.zret C.1 C.2.1 hr hn (fun t ht hW => ⟨⟨v, T, rfl, hp, Sy.to hP C.2.2.2.2.2.1 C.2.2.2.2.2.2.1 ht hW⟩, hS.F ht⟩) hS.2.2 hdg hlocks
theorem sy_vret {post : St → Prop} (C : Cx p s m args c cc nL own G) (hr : meth.sig.returnType = none) (hlocks : meth.locks = false) (hP : va_P G.1 sc_cl (wd G T) H) (hS : va_S (SA G) s.heap H locs) (hp : post T) (hdg : decode cc pc = .ok (.return_, 1)) : W p l e R s m args below meth c H locs 0 0 (MQ below (va_Qv post (Sy G) (SA G)) args s 0 0 (SA G)) (F0 m pc ls []) :=
  W.vret C.1 C.2.1 hr (fun t ht hW => ⟨⟨T, rfl, hp, Sy.to hP C.2.2.2.2.2.1 C.2.2.2.2.2.2.1 ht hW⟩, hS.F ht⟩) hS.2.2 hdg hlocks
def Qr (post : Nat → St → Prop) (G : Gm) : Array Value → State → Outcome → State → Prop := va_Qr (S := Nat × St) (fun u => post u.1 u.2) (fun u a t => a = G.2.2 u.1 ∧ Sy G u.2 t) (SA G)
theorem sy_aret {post : Nat → St → Prop} {o : Nat} {ty : FieldType} (C : Cx p s m args c cc nL own G) (hr : meth.sig.returnType = some (.array ty)) (hlocks : meth.locks = false) (hP : va_P G.1 sc_cl (wd G T) H) (hS : va_S (SA G) s.heap H locs) (hp : post o T) (hdg : decode cc pc = .ok (.areturn, 1)) : W p l e R s m args below meth c H locs 0 0 (MQ below (Qr post G) args s 0 0 (SA G)) (F0 m pc ls [.ref (G.2.2 o)]) :=
  W.aret C.1 C.2.1 hr (Or.inr ⟨_, rfl⟩) (Or.inr ⟨_, rfl⟩) (fun t ht hW => ⟨⟨(o, T), G.2.2 o, rfl, hp, rfl, Sy.to hP C.2.2.2.2.2.1 C.2.2.2.2.2.2.1 ht hW⟩, hS.F ht⟩) hS.2.2 hdg hlocks
end SY
/-- a method's contract: from the state T it comes to a state with post -/
def Mi (l : Launch) (y : MethodName) (cc : ByteArray) (nL : Nat) (ret : Option FieldType) (fr lo : Nat) (G : Gm) (av : List Value) (T : St) (post : Int32 → St → Prop) : Prop :=
  Met l y (.code y cc nL ret :: gw) { frames := fr, cells := 0, slots := 0, locals := lo } (va_Pc av (Sy G T)) (va_Qi post (Sy G) (SA G)) 0 0 (SA G)
def Mv (l : Launch) (y : MethodName) (cc : ByteArray) (nL : Nat) (ret : Option FieldType) (fr lo : Nat) (G : Gm) (av : List Value) (T : St) (post : St → Prop) : Prop :=
  Met l y (.code y cc nL ret :: gw) { frames := fr, cells := 0, slots := 0, locals := lo } (va_Pc av (Sy G T)) (va_Qv post (Sy G) (SA G)) 0 0 (SA G)
def Mr (l : Launch) (y : MethodName) (cc : ByteArray) (nL : Nat) (ret : Option FieldType) (fr lo : Nat) (G : Gm) (av : List Value) (T : St) (post : Nat → St → Prop) : Prop :=
  Met l y (.code y cc nL ret :: gw) { frames := fr, cells := 0, slots := 0, locals := lo } (va_Pc av (Sy G T)) (Qr post G) 0 0 (SA G)
/-- a method's beginning -/
theorem sy_head {l : Launch} {y : MethodName} {cc : ByteArray} {nL : Nat} {ret : Option FieldType} {fr lo : Nat} {G : Gm} {av : List Value} {T : St} {Qc : Array Value → State → Outcome → State → Prop} {lv : List (Nat × Value)} (hi : Inj G) (hy : plainName y.cls = true) (hlen : (lg_sl av).length ≤ nL) (hlv : lv_args 0 av = lv)
    (body : ∀ (p : Program) (e : Env) (s : State) (m : MethodId) (below : List Frame) (meth : Method) (c : Code), Cx p s m av.toArray c cc nL y.cls G → meth.sig.returnType = ret → meth.locks = false → va_P G.1 sc_cl (wd G T) s.heap → va_S (SA G) s.heap s.heap [] → ∀ ls : Array Slot, lv_has ls nL lv →
      W p l e { frames := fr, cells := 0, slots := 0, locals := lo } s m av.toArray below meth c s.heap [] 0 0 (MQ below Qc av.toArray s 0 0 (SA G)) (F0 m 0 ls [])) :
    Met l y (.code y cc nL ret :: gw) { frames := fr, cells := 0, slots := 0, locals := lo } (va_Pc av (Sy G T)) Qc 0 0 (SA G) := by
  refine Met.ofW (cc := cc) (maxL := nL) (ret := ret) hy rfl ?_
  intro p e s m args below meth c s₁ B hml hv
  obtain ⟨rfl, hP, hK, hN⟩ := hv
  have hts := atoms_spec (ws := .code y cc nL ret :: gw) B.pre
  rw [lg_entry_eq]
  subst hlv
  exact body p e s m below meth c ⟨B.exec, B.bytes, hml, findClass_of_methodNamed B.named, fun w hw => hts w (List.mem_cons_of_mem _ hw), hK, hN, hi⟩ B.returns B.notSynchronized hP va_S.rf _ (lv_entry av hlen)
/-- what the tables say of a method that is called -/
def MW (y : MethodName) (cc : ByteArray) (nL : Nat) (ret : Option FieldType) (n : Nat) : Prop :=
  Cond.code y cc nL ret ∈ gw ∧ Cond.initialized y.cls ∈ gw ∧ (y.cls ≠ "java/lang/invoke/MethodHandle" ∧ y.cls ≠ "java/lang/invoke/VarHandle" ∧ (parseMethodDescriptor y.desc).map (fun d => d.parameters.length) = some n)
section SYC
variable {p : Program} {l : Launch} {e : Env} {R : Room} {s : State} {m : MethodId} {args : Array Value} {below : List Frame} {meth : Method} {c : Code} {H H0 : Heap} {locs : List Loc} {cells slots : Nat} {Q : State → Prop} {A : Nat → Prop}
variable {cc : ByteArray} {pc nL : Nat} {ls : Array Slot} {rest st0 As : List Value} {own : String} {G : Gm} {T : St} {y : MethodName} {yc : ByteArray} {yn n fr lo ix : Nat} {ret : Option FieldType} {Qc : Array Value → State → Outcome → State → Prop}
theorem sy_pre (C : Cx p s m args c cc nL own G) (hP : va_P G.1 sc_cl (wd G T) H) : ∀ U : State, U.heap = H → s.WarmedH U.vm → va_Pc As (Sy G T) As.toArray U := fun U hU hW => ⟨rfl, Sy.to hP C.2.2.2.2.2.1 C.2.2.2.2.2.2.1 hU hW⟩
theorem sy_cb (C : Cx p s m args c cc nL own G) (mw : MW y yc yn ret n) (hl : Cond.methodLink own ix y ∈ gw) (hR : fr + 1 ≤ R.frames ∧ 8 + (yn + 11) + lo ≤ R.locals) : CallB R s args own ix y yc yn ret (.code y yc yn ret :: gw) { frames := fr, cells := 0, slots := 0, locals := lo } 0 0 n :=
  callB_of n C.2.2.2.2.1 (gw_in (fun _ h => h) mw.1) rfl rfl rfl (C.2.2.2.2.1 _ mw.2.1) (C.2.2.2.2.1 _ hl) mw.2.2 hR
theorem sy_runV {o ci : Nat} {r : vw_C} (C : Cx p s m args c cc nL own G) (hP : va_P G.1 sc_cl (wd G T) H) (ho : ko o = ci) (hc : sc_cl[ci]? = some r) (hM : Met l y (.code y yc yn ret :: gw) { frames := fr, cells := 0, slots := 0, locals := lo } (va_Pc (.ref (G.2.2 o) :: As) (Sy G T)) Qc 0 0 (SA G)) (mw : MW y yc yn ret n) (h1 : Cond.instanceMethod y ∈ gw) (h2 : Cond.selects r.1 y y ∈ gw) (hl : Cond.methodLink own ix y ∈ gw)
    (hn : As.length = n) (hsize : ls.size = nL) (hst : st0 = As.reverse ++ .ref (G.2.2 o) :: rest) (hW : (rest.map fun v => v.category).sum ≤ 8) (hR : fr + 1 ≤ R.frames ∧ 8 + (yn + 11) + lo ≤ R.locals) (hdg : decode cc pc = .ok (.invokevirtual ix, 3)) (hf : cells + 0 ≤ R.cells ∧ slots + 0 ≤ R.slots) :
    va_Run p l e R s m args below meth c H locs cells slots 0 0 (F0 m pc ls st0) rest (Qc (Value.ref (G.2.2 o) :: As).toArray) (SA G) := by
  have h99 := (cl_nf hc).1
  exact va_runV (C := r.1) (Ts := gw) ⟨C.1, C.2.1, C.2.2.1, C.2.2.2.1, C.2.2.2.2.1⟩ hM ⟨sy_cb C mw hl hR, C.2.2.2.2.1 _ h1, C.2.2.2.2.1 _ h2⟩ ⟨Sy.blind, va_recv C.2.2.2.2.2.1 hP hc (by rw [wd_at G T ho (by omega), pi_obj h99]), sy_pre C hP⟩ rfl hn hsize hst (lv_room hW) hdg hf
theorem sy_runS (C : Cx p s m args c cc nL own G) (hP : va_P G.1 sc_cl (wd G T) H) (hM : Met l y (.code y yc yn ret :: gw) { frames := fr, cells := 0, slots := 0, locals := lo } (va_Pc As (Sy G T)) Qc 0 0 (SA G)) (mw : MW y yc yn ret n) (h1 : Cond.static y ∈ gw) (hl : Cond.methodLink own ix y ∈ gw)
    (hn : As.length = n) (hsize : ls.size = nL) (hst : st0 = As.reverse ++ rest) (hW : (rest.map fun v => v.category).sum ≤ 8) (hR : fr + 1 ≤ R.frames ∧ 8 + (yn + 11) + lo ≤ R.locals) (hdg : decode cc pc = .ok (.invokestatic ix, 3)) (hf : cells + 0 ≤ R.cells ∧ slots + 0 ≤ R.slots) :
    va_Run p l e R s m args below meth c H locs cells slots 0 0 (F0 m pc ls st0) rest (Qc As.toArray) (SA G) :=
  va_runS (Ts := gw) ⟨C.1, C.2.1, C.2.2.1, C.2.2.2.1, C.2.2.2.2.1⟩ hM ⟨sy_cb C mw hl hR, C.2.2.2.2.1 _ h1⟩ ⟨Sy.blind, sy_pre C hP⟩ rfl hn hsize hst (lv_room hW) hdg hf
theorem sy_runSN {host : String} (C : Cx p s m args c cc nL own G) (hP : va_P G.1 sc_cl (wd G T) H) (hM : Met l y (.code y yc yn ret :: gw) { frames := fr, cells := 0, slots := 0, locals := lo } (va_Pc As (Sy G T)) Qc 0 0 (SA G)) (mw : MW y yc yn ret n) (h1 : Cond.static y ∈ gw) (hl : (own, ix, y, host) ∈ nws)
    (hn : As.length = n) (hsize : ls.size = nL) (hst : st0 = As.reverse ++ rest) (hW : (rest.map fun v => v.category).sum ≤ 8) (hR : fr + 1 ≤ R.frames ∧ 8 + (yn + 11) + lo ≤ R.locals) (hdg : decode cc pc = .ok (.invokestatic ix, 3)) (hf : cells + 0 ≤ R.cells ∧ slots + 0 ≤ R.slots) :
    va_Run p l e R s m args below meth c H locs cells slots 0 0 (F0 m pc ls st0) rest (Qc As.toArray) (SA G) :=
  va_runSN (Ts := gw) (host := host) ⟨C.1, C.2.1, C.2.2.1, C.2.2.2.1, C.2.2.2.2.1⟩ hM ⟨va_cnB n C.2.2.2.2.1 (gw_in (fun _ h => h) mw.1) rfl rfl rfl (C.2.2.2.2.2.2.1 _ hl) (C.2.2.2.2.1 _ mw.2.1) mw.2.2 hR, C.2.2.2.2.1 _ h1, trivial⟩ ⟨Sy.blind, sy_pre C hP⟩ rfl hn hsize hst (lv_room hW) hdg hf
theorem sy_goi {a : Array Value} {post : Int32 → St → Prop} (hr : va_Run p l e R s m args below meth c H locs cells slots 0 0 (F0 m pc ls st0) rest (va_Qi post (Sy G) (SA G) a) (SA G)) (hS : va_S A H0 H locs) (hA : ∀ q, SA G q → A q)
    (kk : ∀ (r : Int32) (T' : St) (H : Heap) (locs : List Loc), post r T' → va_P G.1 sc_cl (wd G T') H → va_S A H0 H locs → W p l e R s m args below meth c H locs cells slots Q (F0 m (pc + 3) ls (.int r :: rest))) : W p l e R s m args below meth c H locs cells slots Q (F0 m pc ls st0) :=
  va_calli hr hS (fun q _ h => hA q h) hA (fun r u t H1 locs1 ht _ hp hB _ _ hS1 => kk r u H1 locs1 hp (by rw [← ht]; exact hB.1) hS1)
theorem sy_gov {a : Array Value} {post : St → Prop} (hr : va_Run p l e R s m args below meth c H locs cells slots 0 0 (F0 m pc ls st0) rest (va_Qv post (Sy G) (SA G) a) (SA G)) (hS : va_S A H0 H locs) (hA : ∀ q, SA G q → A q)
    (kk : ∀ (T' : St) (H : Heap) (locs : List Loc), post T' → va_P G.1 sc_cl (wd G T') H → va_S A H0 H locs → W p l e R s m args below meth c H locs cells slots Q (F0 m (pc + 3) ls rest)) : W p l e R s m args below meth c H locs cells slots Q (F0 m pc ls st0) :=
  va_callv hr hS (fun q _ h => hA q h) hA (fun u t H1 locs1 ht _ hp hB _ _ hS1 => kk u H1 locs1 hp (by rw [← ht]; exact hB.1) hS1)
theorem sy_gor {a : Array Value} {post : Nat → St → Prop} (hr : va_Run p l e R s m args below meth c H locs cells slots 0 0 (F0 m pc ls st0) rest (Qr post G a) (SA G)) (hS : va_S A H0 H locs) (hA : ∀ q, SA G q → A q)
    (kk : ∀ (o : Nat) (T' : St) (H : Heap) (locs : List Loc), post o T' → va_P G.1 sc_cl (wd G T') H → va_S A H0 H locs → W p l e R s m args below meth c H locs cells slots Q (F0 m (pc + 3) ls (.ref (G.2.2 o) :: rest))) : W p l e R s m args below meth c H locs cells slots Q (F0 m pc ls st0) :=
  va_callr hr hS (fun q _ h => hA q h) hA (fun u ra t H1 locs1 ht _ hp hB _ _ hS1 => by rw [hB.1]; exact kk u.1 u.2 H1 locs1 hp (by rw [← ht]; exact hB.2.1) hS1)
/-- System.arraycopy of 256 ints between two rows -/
theorem sy_copy (C : Cx p s m args c cc nL own G) (hP : va_P G.1 sc_cl (wd G T) H) (hS : va_S A H0 H locs) (hA : ∀ q, SA G q → A q) (hsize : ls.size = nL) {o1 o2 : Nat} (h1 : ko o1 = 10) (h2 : ko o2 = 10) (n1 : len o1 = 256) (n2 : len o2 = 256) (hl : Cond.methodLink own ix arraycopyName ∈ gw) (w1 : Cond.native arraycopyName ∈ gw) (w2 : Cond.static arraycopyName ∈ gw) (w3 : Cond.initialized "java/lang/System" ∈ gw) (hfr : 1 ≤ R.frames) (hlo : (rest.map fun v => v.category).sum + (nativeFrameWords "java/lang/System" "arraycopy" 5 + 11) ≤ R.locals) (hdg : decode cc pc = .ok (.invokestatic ix, 3))
    (kk : ∀ (H : Heap) (locs : List Loc), va_P G.1 sc_cl (wd G (sa T o2 (va_cpy (T.1 o1) (T.1 o2) 0 0 256))) H → va_S A H0 H locs → W p l e R s m args below meth c H locs cells slots Q (F0 m (pc + 3) ls rest)) : W p l e R s m args below meth c H locs cells slots Q (F0 m pc ls (.int 256 :: .int 0 :: .ref (G.2.2 o2) :: .int 0 :: .ref (G.2.2 o1) :: rest)) := by
  obtain ⟨hx, hb, hml, hown, hg, hK, -, hi⟩ := C
  have hD : va_D A (wd G T) := (wd_D hi T).weaken (fun _ _ _ h => hA _ h)
  have e0 : (0 : Int32).toNatClampNeg = 0 := by decide
  have e256 : (256 : Int32).toNatClampNeg = 256 := by decide
  refine va_copyi hx hb (by rw [hml, hsize]) hown (hg _ hl) (hg _ w1) (hg _ w2) (hg _ w3) hK hP hD hS o1 o2 0 0 (n0 := 256) (n1 := 256) (f := T.1 o1) (g := T.1 o2) (ty := .int) (by rw [wd_at G T h1 (by omega), ← n1]; rfl) (by rw [wd_at G T h2 (by omega), ← n2]; rfl) rfl rfl rfl (by decide) (by decide) (by decide) (by rw [e0, e256]; decide) (by rw [e0, e256]; decide) (fun i _ => rfl) hfr hlo hdg (fun H1 locs1 hP1 _ hS1 => kk H1 locs1 ?_ hS1)
  rw [e0, e256] at hP1
  rw [wd_set G T (sa T o2 (va_cpy (T.1 o1) (T.1 o2) 0 0 256)) h2 (by omega) (by rw [← n2]; simp [pi, sa]) (fun i hi => pic_sa hi)] at hP1
  exact hP1
end SYC
/-- a loop: an invariant and a measure that falls -/
def LW {V : Type} (F : (V → St → Prop) → V → St → Prop) (v0 : V) (T0 : St) : Prop :=
  ∃ (I : V → St → Prop) (μ : V → St → Nat), I v0 T0 ∧ ∀ (v : V) (T : St), I v T → F (fun v' T' => I v' T' ∧ μ v' T' < μ v T) v T
/-! kinds and lengths of cells that are told by others -/
theorem ko_ro {i : Int32} (h : vp_in i 10) : ko (27 + 9 * i.toNatClampNeg) = 5 := by
  have hlt : i.toNatClampNeg < 10 := Nat.not_le.mp fun q => h (Or.inr q)
  generalize i.toNatClampNeg = k at hlt ⊢
  revert k
  decide
theorem ko_all (P : Nat → Bool) (h : (List.range 152).all P = true) {o : Nat} (ho : o < 152) : P o = true := List.all_eq_true.mp h o (List.mem_range.mpr ho)
theorem ko_mb {o : Nat} (h : ko o = 5) (e : Int32) : ko (mb o e) = 3 := by
  have hl := ko_lt h (by omega)
  have h1 := ko_all (fun o => !(ko o == 5) || (ko (o + 1) == 3 && ko (o + 5) == 3)) (by decide +kernel) hl
  simp [h] at h1
  unfold mb
  split
  · exact h1.1
  · exact h1.2
theorem ko_mem {o : Nat} (h : ko o = 3) : (ko (o + 1) = 10 ∧ len (o + 1) = 24) ∧ (ko (o + 2) = 10 ∧ len (o + 2) = 24) ∧ (ko (o + 3) = 10 ∧ len (o + 3) = 24) := by
  have hl := ko_lt h (by omega)
  have h1 := ko_all (fun o => !(ko o == 3) || ((ko (o + 1) == 10 && len (o + 1) == 24) && (ko (o + 2) == 10 && len (o + 2) == 24) && (ko (o + 3) == 10 && len (o + 3) == 24))) (by decide +kernel) hl
  simp [h] at h1
  exact ⟨h1.1.1, h1.1.2, h1.2⟩
theorem ko_by {o : Nat} (h : ko o = 4) : ko (o + 1) = 10 ∧ len (o + 1) = 256 := by
  have hl := ko_lt h (by omega)
  have h1 := ko_all (fun o => !(ko o == 4) || (ko (o + 1) == 10 && len (o + 1) == 256)) (by decide +kernel) hl
  simp [h] at h1
  exact h1
theorem ko_co {o : Nat} (h : ko o = 0) : ko (mo o) = 4 ∧ (ko (wi o) = 10 ∧ len (wi o) = 6) ∧ (ko (wi o + 1) = 10 ∧ len (wi o + 1) = 6) := by
  have hl := ko_lt h (by omega)
  have h1 := ko_all (fun o => !(ko o == 0) || (ko (mo o) == 4 && (ko (wi o) == 10 && len (wi o) == 6) && (ko (wi o + 1) == 10 && len (wi o + 1) == 6))) (by decide +kernel) hl
  simp [h] at h1
  exact ⟨h1.1.1, h1.1.2, h1.2⟩
theorem ko_row {o n : Nat} (h : (o = 8 ∧ n = 9) ∨ (o = 18 ∧ n = 4)) {i : Int32} (hi : vp_in i n) : ko (o + 1 + i.toNatClampNeg) = 10 ∧ len (o + 1 + i.toNatClampNeg) = 256 := by
  have hlt : i.toNatClampNeg < n := Nat.not_le.mp fun q => hi (Or.inr q)
  generalize i.toNatClampNeg = k at hlt ⊢
  rcases h with ⟨rfl, rfl⟩ | ⟨rfl, rfl⟩ <;> revert k <;> decide
end
