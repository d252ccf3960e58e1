/-! new NullPointerException(text) with no traces kept: its own fillInStackTrace, then Throwable's constructor with a message, then the constructors above -/
section NPF
variable {self : Addr}
theorem np_fill (p : Program) {e : Env} {below : List Frame} {s₀ V : State} {g : JFrame} {c : Code} (h : At V g.method c below) (hexec : p.tables.exec = Jvm.exec) (htr : e.platform.stackTraces = false)
    (T : ThrowableC) (L : T.Links e.platform s₀) (N : NpeC) (LN : N.Links T e.platform s₀) (hW : s₀.WarmedH V.vm)
    {cell cellS : Cell} {u0 : RefV} {kcell : Class} {ig : Instr} {len : Nat} (acts : List Action)
    (hcell : V.heap[self]? = some cell) (hobj : ∀ k, cell.vm ≠ .statics k) (hknown : cell.vm ≠ .unknown) (hfree : cell.monitor.owner = none)
    (hkcell : s₀.vm.classes[cell.cls]? = some kcell) (hsel0 : selectMethod e.platform s₀.vm cell.cls T.fill0 = .method T.fill0)
    (hcellS : V.heap[T.aS]? = some cellS) (hneS : T.aS ≠ self) (hknownS : cellS.vm ≠ .unknown) (hvU : cellS.slots[T.fUnassigned.slot]? = some u0.v)
    (hv0 : cell.slots[N.fState.slot]? = some (.int 0)) (ht1 : Takes s₀ cell N.fState (.int 1)) (hvS : cell.slots[T.fStack.slot]? = some u0.v) (hneSt : T.fStack.slot ≠ N.fState.slot) (htS : Takes s₀ cell T.fStack u0.v)
    (hskip : SkipFacts T e.platform s₀ (fun u => u) u0 ((npeCell N.toNpeT cell V.cur).withEntry V.cur))
    (hdg : decode c.code g.pc = .ok (ig, len)) {lim : Nat × Nat} (hlim : e.platform.stackLimits V.me = lim) (hframes : V.frames.length + 2 < lim.1) (hwords : (stackUse (.java g :: V.frames.tail)).2 + 43 ≤ lim.2) :
    ∃ vm', s₀.WarmedH vm' ∧ ∀ target, Steps p.tables e below (((V.setVm vm').setCell self ((((npeCell N.toNpeT cell V.cur).withEntry V.cur).setSlot T.fStack.slot u0.v).left).left).setTop { g with pc := g.pc + len, stack := .ref self :: g.stack }) target →
      Steps p.tables e below (doInvoke e (V.setTop g) acts N.fill #[.ref self]).1 target := by
  obtain ⟨g₀, hg⟩ := Option.isSome_iff_exists.mp h.top
  obtain ⟨tl, htl⟩ := State.topJava?_eq_some.mp hg
  have hlen : V.frames.length = (Frame.java g :: V.frames.tail).length := by rw [htl]; rfl
  have hfg : (V.setTop g).frames = .java g :: V.frames.tail := by rw [State.frames_setTop _ htl, htl]; rfl
  have hlimg : e.platform.stackLimits (V.setTop g).me = lim := by rw [State.stackLimits_setTop _ h.top]; exact hlim
  have hroom : e.platform.stackFull (((V.setTop g).threads[(V.setTop g).cur]?).getD { frames := [] }) (V.setTop g).frames (1 + 2) = false :=
    roomAbove (pushed := []) (base := .java g :: V.frames.tail) (free := 43) (lim := lim) hfg hlimg (by rw [← hlen]; simp only [List.length_nil]; omega) hwords (by simp only [stackUse_nil]; omega)
  have htopE : ∀ vm, ((V.setVm vm).setCell self (cell.withEntry (V.setVm vm).cur)).topJava?.isSome := fun vm => h.top
  have hfN : ∀ vm, (npeInside (V.setVm vm) g N.toNpeT self cell).frames = .java (entryFrameSync N.fill #[.ref self] 1 self) :: .java g :: V.frames.tail := fun vm => by
    show (fillInside (V.setVm vm) g N.fill self cell).frames = _
    exact frames_entered (g := g) (htopE vm) _
  have htopN : ∀ vm, (npeInside (V.setVm vm) g N.toNpeT self cell).topJava?.isSome := fun vm => by rw [State.topJava?_of_frames (hfN vm)]; rfl
  have hlimN : ∀ vm, e.platform.stackLimits (npeInside (V.setVm vm) g N.toNpeT self cell).me = lim := fun vm => by
    show e.platform.stackLimits (fillInside (V.setVm vm) g N.fill self cell).me = lim
    rw [State.stackLimits_pushFrame, State.stackLimits_setTop _ (htopE vm)]; exact hlim
  have hw14 : (stackUse [Frame.java (fillJ N.fill self 37 [])]).2 = 14 := by
    rw [stackUse_java, stackUse_nil]
    simp [operandWords]
  have hroom2 := fun vm => roomAbove (pl := e.platform) (u := (npeInside (V.setVm vm) g N.toNpeT self cell).setTop (fillJ N.fill self 37 [])) (vars := 1 + 2)
      (pushed := [.java (fillJ N.fill self 37 [])]) (base := .java g :: V.frames.tail) (free := 43) (lim := lim) (State.frames_setTop _ (hfN vm)) (by rw [State.stackLimits_setTop _ (htopN vm)]; exact hlimN vm)
      (by rw [← hlen]; simp only [List.length_cons, List.length_nil]; omega) hwords (by rw [hw14]; omega)
  have htopE2 : ∀ vm, ((npeInside (V.setVm vm) g N.toNpeT self cell).setCell self ((npeCell N.toNpeT cell V.cur).withEntry (npeInside (V.setVm vm) g N.toNpeT self cell).cur)).topJava?.isSome := fun vm => by rw [State.topJava?_setCell]; exact htopN vm
  have hfF2 : ∀ vm, (fillInside (npeInside (V.setVm vm) g N.toNpeT self cell) (fillJ N.fill self 37 []) T.fill self (npeCell N.toNpeT cell V.cur)).frames = .java (entryFrameSync T.fill #[.ref self] 1 self) :: .java (fillJ N.fill self 37 []) :: .java g :: V.frames.tail := fun vm => by
    rw [show (fillInside (npeInside (V.setVm vm) g N.toNpeT self cell) (fillJ N.fill self 37 []) T.fill self (npeCell N.toNpeT cell V.cur)).frames = _ from frames_entered (g := (fillJ N.fill self 37 [])) (htopE2 vm) _]
    show _ :: _ :: ((npeInside (V.setVm vm) g N.toNpeT self cell).frames).tail = _
    rw [hfN vm]; rfl
  have htopF2 : ∀ vm, (fillInside (npeInside (V.setVm vm) g N.toNpeT self cell) (fillJ N.fill self 37 []) T.fill self (npeCell N.toNpeT cell V.cur)).topJava?.isSome := fun vm => by rw [State.topJava?_of_frames (hfF2 vm)]; rfl
  have hlimF2 : ∀ vm, e.platform.stackLimits (fillInside (npeInside (V.setVm vm) g N.toNpeT self cell) (fillJ N.fill self 37 []) T.fill self (npeCell N.toNpeT cell V.cur)).me = lim := fun vm => by
    rw [State.stackLimits_pushFrame, State.stackLimits_setTop _ (htopE2 vm)]; exact hlimN vm
  have hw28 : (stackUse [Frame.java (fillJ T.fill self 16 []), Frame.java (fillJ N.fill self 37 [])]).2 = 28 := by
    rw [stackUse_java, hw14]
    simp [operandWords]
  have hroomN := fun vm => roomAbove (pl := e.platform) (u := (fillInside (npeInside (V.setVm vm) g N.toNpeT self cell) (fillJ N.fill self 37 []) T.fill self (npeCell N.toNpeT cell V.cur)).setTop (fillJ T.fill self 16 [])) (vars := (nativeFrameWords "java/lang/Throwable" "fillInStackTrace" 2))
      (pushed := [.java (fillJ T.fill self 16 []), .java (fillJ N.fill self 37 [])]) (base := .java g :: V.frames.tail) (free := 43) (lim := lim) (State.frames_setTop _ (hfF2 vm)) (by rw [State.stackLimits_setTop _ (htopF2 vm)]; exact hlimF2 vm)
      (by rw [← hlen]; simp only [List.length_cons, List.length_nil]; omega) hwords (by rw [hw28]; decide)
  have hlt : self < V.heap.size := (Array.getElem?_eq_some_iff.mp hcell).1
  have tk2 : ∀ {f : Field} {v : Value}, Takes s₀ cell f v → Takes s₀ (npeCell N.toNpeT cell V.cur) f v := fun h' => ⟨by simpa [npeCell, Cell.setSlot, Cell.withEntry] using h'.1, h'.2⟩
  have hvSN : (npeCell N.toNpeT cell V.cur).slots[T.fStack.slot]? = some u0.v := by
    simp [npeCell, Cell.setSlot, Cell.withEntry, Ne.symm hneSt, hvS]
  have hheld : ((npeCell N.toNpeT cell V.cur).withEntry V.cur).left = (npeCell N.toNpeT cell V.cur) := Cell.left_withEntry_held _ rfl (by show 0 < cell.monitor.count + 1; omega)
  have hFmon : (((npeCell N.toNpeT cell V.cur).withEntry V.cur).setSlot T.fStack.slot u0.v).left.monitor = (npeCell N.toNpeT cell V.cur).monitor := by
    exact (Cell.left_monitor_congr (y := (npeCell N.toNpeT cell V.cur).withEntry V.cur) (show (((npeCell N.toNpeT cell V.cur).withEntry V.cur).setSlot T.fStack.slot u0.v).monitor = _ from rfl)).trans (by rw [hheld])
  have hinner : ∀ vm1, s₀.WarmedH vm1 → At (npeInside (V.setVm vm1) g N.toNpeT self cell) N.fill N.codeFill below → ∃ vm2, s₀.WarmedH vm2 ∧ ∀ t' : State,
      Steps p.tables e below (((npeInside (V.setVm vm2) g N.toNpeT self cell).setCell self (((npeCell N.toNpeT cell V.cur).withEntry V.cur).setSlot T.fStack.slot u0.v).left).setTop (fillJ N.fill self 40 [.ref self])) t' →
      Steps p.tables e below (doInvoke e ((npeInside (V.setVm vm1) g N.toNpeT self cell).setTop (fillJ N.fill self 37 [])) [] T.fill #[.ref self]).1 t' := fun vm1 hW1 hB => by
    have hc1 : (npeInside (V.setVm vm1) g N.toNpeT self cell).heap[self]? = some (npeCell N.toNpeT cell V.cur) := heapAt_setCell_self _ (by show self < (V.heap.setIfInBounds self _).size; simpa using hlt)
    have hc2 : (npeInside (V.setVm vm1) g N.toNpeT self cell).heap[T.aS]? = some cellS := by
      show ((V.heap.setIfInBounds self _).setIfInBounds self _)[T.aS]? = _
      simp [Ne.symm hneS, hcellS]
    have hXvm : ∀ vm, (npeInside (V.setVm vm1) g N.toNpeT self cell).setVm vm = npeInside (V.setVm vm) g N.toNpeT self cell := fun vm => by rw [npeInside_setVm, State.setVm_twice]
    have hXcur : (npeInside (V.setVm vm1) g N.toNpeT self cell).cur = V.cur := rfl
    have hXW : s₀.WarmedH (npeInside (V.setVm vm1) g N.toNpeT self cell).vm := hW1
    have hr := hroom2 vm1
    generalize npeInside (V.setVm vm1) g N.toNpeT self cell = X at hB hc1 hc2 hXvm hXcur hXW hr ⊢
    obtain ⟨vm2, hW2, st⟩ := Steps.fillColdAnyV p (V := X) (g := fillJ N.fill self 37 []) (c := N.codeFill) (self := self) hB hexec T L hXW (Nn := fun u => u) heapOnly_id (fun _ _ => rfl) (fun _ => rfl) (fun u x y => setCell_twice _ _ _ _)
      (cell := npeCell N.toNpeT cell V.cur) (cellS := cellS) (cN := (npeCell N.toNpeT cell V.cur).withEntry V.cur) (u0 := u0) (ig := .invokespecial 24) (len := 3) [] hc1 hobj hknown (Or.inr (by rw [hXcur]; rfl)) hvSN hsel0 hc2 hneS hknownS hvU
      (by rw [hXcur]; exact fun _ hu => hu) (fun _ hu => hu) rfl rfl (by rw [hXcur]) rfl (tk2 htS) (by rw [LN.fillBytes]; exact LibCode.NullPointerException.Fill.at_37)
      (fun _ vm2 hW2 hAt t' hs => L.nativeOff p htr hAt hW2 (by rw [hXvm]; exact hroomN vm2) hs) hr (by rw [hXcur]; exact hskip)
    refine ⟨vm2, hW2, fun t' hs => st t' ?_⟩
    rw [hXvm]
    exact hs
  obtain ⟨vm', hW', st⟩ := Steps.npeFillColdBy p h hexec T L N LN hW (Fi := fun u => u.setCell self (((npeCell N.toNpeT cell V.cur).withEntry V.cur).setSlot T.fStack.slot u0.v).left) (heapOnly_id.thenSetCell self _) (fun _ => rfl)
    (fun u x y => by rw [setCell_twice, setCell_twice, setCell_twice]) (cFi := (((npeCell N.toNpeT cell V.cur).withEntry V.cur).setSlot T.fStack.slot u0.v).left) acts hcell hobj hknown hfree hkcell hv0 ht1
    (fun u hu => heapAt_setCell_self _ (Array.getElem?_eq_some_iff.mp hu).1) hFmon hdg hinner hroom
  refine ⟨vm', hW', fun target hrest => st target ?_⟩
  show Steps p.tables e below ((((V.setVm vm').setCell self (((npeCell N.toNpeT cell V.cur).withEntry V.cur).setSlot T.fStack.slot u0.v).left).setCell self ((((npeCell N.toNpeT cell V.cur).withEntry V.cur).setSlot T.fStack.slot u0.v).left).left).setTop { g with pc := g.pc + len, stack := .ref self :: g.stack }) target
  rw [setCell_twice]
  exact hrest
end NPF
