section NPS
variable {self : Addr}
/-- the new cell behind Throwable's constructor, but for the message -/
abbrev npCF (T : ThrowableT) (N : NpeT) (cell : Cell) (self : Addr) (u0 sen : RefV) (t : ThreadId) : Cell := ((((npeCell N (preparedCellV T cell self u0 sen) t).withEntry t).setSlot T.fStack.slot u0.v).left).left
theorem np_initS (p : Program) {e : Env} {below : List Frame} {s₀ V : State} {g : JFrame} {c : Code} (h : At V g.method c below) (hexec : p.tables.exec = Jvm.exec) (htr : e.platform.stackTraces = false)
    (T : ThrowableC) (L : T.Links e.platform s₀) (Z : Init0T) (LZ : Z.LaidS T.toThrowableT) (M : MsgC) (LM : M.Links T e.platform s₀) (N : NpeC) (LN : N.Links T e.platform s₀) (hW : s₀.WarmedH V.vm) {t : ThreadId} (ht : V.cur = t)
    {u0 sen : RefV} {msg : Value} (hmsg : msg.isRef = true) {cell cellS : Cell} {kcell : Class}
    (hcell : V.heap[self]? = some cell) (hobj : ∀ k, cell.vm ≠ .statics k) (hknown : cell.vm ≠ .unknown) (hfree : cell.monitor.owner = none)
    (hkcell : s₀.vm.classes[cell.cls]? = some kcell) (hsel0 : selectMethod e.platform s₀.vm cell.cls T.fill0 = .method T.fill0)
    (hcellS : V.heap[T.aS]? = some cellS) (hneS : T.aS ≠ self) (hknownS : cellS.vm ≠ .unknown) (hvU : cellS.slots[T.fUnassigned.slot]? = some u0.v) (hvSen : cellS.slots[T.fSentinel.slot]? = some sen.v)
    (hv0 : cell.slots[N.fState.slot]? = some (.int 0)) (hneC : T.fCause.slot ≠ N.fState.slot) (hneSt : T.fStack.slot ≠ N.fState.slot) (hneP : T.fSupp.slot ≠ N.fState.slot)
    (htC : Takes s₀ cell T.fCause (.ref self)) (htS : Takes s₀ cell T.fStack u0.v) (htP : Takes s₀ cell T.fSupp sen.v) (htM : Takes s₀ cell T.fMsg msg) (ht1 : Takes s₀ cell N.fState (.int 1)) (hobjLocals : T.codeObj.maxLocals = 1)
    (hselF : selectMethod e.platform s₀.vm cell.cls T.fill = .method N.fill)
    (hskip : SkipFacts T e.platform s₀ (fun u => u) u0 ((npeCell N.toNpeT (preparedCellV T.toThrowableT cell self u0 sen) t).withEntry t))
    {ig : Instr} {len : Nat} (acts : List Action)
    {lim : Nat × Nat} (hlim : e.platform.stackLimits V.me = lim) (hframes : V.frames.length + 3 < lim.1) (hwords : (stackUse (.java g :: V.frames.tail)).2 + 56 ≤ lim.2)
    (hdg : decode c.code g.pc = .ok (ig, len)) :
    ∃ vm', s₀.WarmedH vm' ∧ ∀ target, Steps p.tables e below (((V.setVm vm').setCell self ((npCF T.toThrowableT N.toNpeT cell self u0 sen t).setSlot T.fMsg.slot msg)).setTop { g with pc := g.pc + len }) target →
      Steps p.tables e below (doInvoke e (V.setTop g) acts (Z.m T.toThrowableT) #[.ref self, msg]).1 target := by
  obtain ⟨r1, r2, -, -⟩ := plainRoomsV (e := e) (g := g) (self := self) h.top T hobjLocals Z cell u0 sen msg hlim (by omega) (by omega)
  have hlt : self < V.heap.size := (Array.getElem?_eq_some_iff.mp hcell).1
  have tk : ∀ {f : Field} {v : Value}, Takes s₀ cell f v → Takes s₀ (preparedCellV T.toThrowableT cell self u0 sen) f v := fun h' => ⟨by simpa [preparedCellV, Cell.setSlot] using h'.1, h'.2⟩
  have hv0P : (preparedCellV T.toThrowableT cell self u0 sen).slots[N.fState.slot]? = some (.int 0) := by
    simp [preparedCellV, Cell.setSlot, hneC, hneSt, hneP, hv0]
  have hvSP : (preparedCellV T.toThrowableT cell self u0 sen).slots[T.fStack.slot]? = some u0.v := by
    have h1 : T.fStack.slot < cell.slots.size := htS.1
    simp [preparedCellV, Cell.setSlot, Ne.symm L.stackApartSupp, h1]
  have hfill : ∀ vm1, s₀.WarmedH vm1 → At ((initSInside (V.setVm vm1) g T.toThrowableT Z self msg).setCell self (preparedCellV T.toThrowableT cell self u0 sen)) (Z.m T.toThrowableT) Z.code below → ∃ vm2, s₀.WarmedH vm2 ∧ ∀ t' : State,
      Steps p.tables e below ((((initSInside (V.setVm vm2) g T.toThrowableT Z self msg).setCell self (preparedCellV T.toThrowableT cell self u0 sen)).setCell self (npCF T.toThrowableT N.toNpeT cell self u0 sen t)).setTop (initSJ T.toThrowableT Z self msg 27 [.ref self])) t' →
      Steps p.tables e below (doInvoke e (((initSInside (V.setVm vm1) g T.toThrowableT Z self msg).setCell self (preparedCellV T.toThrowableT cell self u0 sen)).setTop (initSJ T.toThrowableT Z self msg 24 [])) [] N.fill #[.ref self]).1 t' := fun vm1 hW1 hA => by
    have htop1 : (V.setVm vm1).topJava?.isSome := h.top
    have hfU : ((initSInside (V.setVm vm1) g T.toThrowableT Z self msg).setCell self (preparedCellV T.toThrowableT cell self u0 sen)).frames = .java (initSJ T.toThrowableT Z self msg 0 []) :: .java g :: V.frames.tail := frames_entered htop1 _
    obtain ⟨g₀, hg⟩ := Option.isSome_iff_exists.mp h.top
    obtain ⟨tl, htl⟩ := State.topJava?_eq_some.mp hg
    have hlen : V.frames.length = (Frame.java g :: V.frames.tail).length := by rw [htl]; rfl
    have hlimU : e.platform.stackLimits ((initSInside (V.setVm vm1) g T.toThrowableT Z self msg).setCell self (preparedCellV T.toThrowableT cell self u0 sen)).me = lim := by
      show e.platform.stackLimits (initSInside (V.setVm vm1) g T.toThrowableT Z self msg).me = lim
      rw [State.stackLimits_pushFrame, State.stackLimits_setTop _ htop1]; exact hlim
    have hcU : ((initSInside (V.setVm vm1) g T.toThrowableT Z self msg).setCell self (preparedCellV T.toThrowableT cell self u0 sen)).heap[self]? = some (preparedCellV T.toThrowableT cell self u0 sen) := heapAt_setCell_self (s := initSInside (V.setVm vm1) g T.toThrowableT Z self msg) _ hlt
    have hcS : ((initSInside (V.setVm vm1) g T.toThrowableT Z self msg).setCell self (preparedCellV T.toThrowableT cell self u0 sen)).heap[T.aS]? = some cellS := by
      show (V.heap.setIfInBounds self _)[T.aS]? = _
      simp [Ne.symm hneS, hcellS]
    have hXvm : ∀ vm, ((initSInside (V.setVm vm1) g T.toThrowableT Z self msg).setCell self (preparedCellV T.toThrowableT cell self u0 sen)).setVm vm = ((initSInside (V.setVm vm) g T.toThrowableT Z self msg).setCell self (preparedCellV T.toThrowableT cell self u0 sen)) := fun vm => by rw [State.setCell_setVm, initSInside_setVm, State.setVm_twice]
    have hXcur : ((initSInside (V.setVm vm1) g T.toThrowableT Z self msg).setCell self (preparedCellV T.toThrowableT cell self u0 sen)).cur = t := ht
    have hXW : s₀.WarmedH ((initSInside (V.setVm vm1) g T.toThrowableT Z self msg).setCell self (preparedCellV T.toThrowableT cell self u0 sen)).vm := hW1
    generalize ((initSInside (V.setVm vm1) g T.toThrowableT Z self msg).setCell self (preparedCellV T.toThrowableT cell self u0 sen)) = X at hA hfU hlimU hcU hcS hXvm hXcur hXW ⊢
    obtain ⟨vm2, hW2, st⟩ := np_fill p (V := X) (g := initSJ T.toThrowableT Z self msg 24 []) (c := Z.code) (self := self) hA hexec htr T L N LN hXW (cell := preparedCellV T.toThrowableT cell self u0 sen) (cellS := cellS) (u0 := u0) (kcell := kcell) (ig := .invokevirtual 27) (len := 3) []
      hcU hobj hknown hfree hkcell hsel0 hcS hneS hknownS hvU hv0P (tk ht1) hvSP hneSt (tk htS) (by rw [hXcur]; exact hskip) (by rw [LZ.bytes]; exact LibCode.Throwable.InitS.at_24) hlimU
      (by rw [hfU]; simp only [List.length_cons] at hlen ⊢; omega)
      (by rw [hfU, List.tail_cons, stackUse_java]
          show (stackUse (Frame.java g :: V.frames.tail)).2 + (2 + 11 + 2 * 0 + operandWords []) + 43 ≤ lim.2
          simp only [operandWords, List.foldl_nil]
          omega)
    refine ⟨vm2, hW2, fun t' hs => st t' ?_⟩
    rw [hXvm, hXcur]
    rw [hXvm] at *
    exact hs
  obtain ⟨vm', hW', st⟩ := Steps.throwableInitSColdByV p h hexec T L Z LZ M LM hW (F := fun u => u.setCell self (npCF T.toThrowableT N.toNpeT cell self u0 sen t)) (heapOnly_id.thenSetCell self _) (fun _ _ => rfl)
    hmsg (cF := npCF T.toThrowableT N.toNpeT cell self u0 sen t) hcell hknown (fun u hu => heapAt_setCell_self _ (Array.getElem?_eq_some_iff.mp hu).1) (by rw [npCF, Cell.left_cls, Cell.left_cls]; rfl) (by rw [npCF, Cell.left_data, Cell.left_data]; rfl)
    (by rw [npCF, Cell.left_slots, Cell.left_slots]; simp [npeCell, preparedCellV, Cell.setSlot, Cell.withEntry]) htM hdg (mSel := N.fill) (methSel := N.methFill) (kSel := N.kN) hobj hselF LN.method LN.fillAbstract LN.cls LN.notInterface hfill acts
    hcellS hneS hknownS hvU hvSen htC htS htP r1 r2
  refine ⟨vm', hW', fun target hrest => st target ?_⟩
  show Steps p.tables e below (((((V.setVm vm').setCell self (preparedCellV T.toThrowableT cell self u0 sen)).setCell self (npCF T.toThrowableT N.toNpeT cell self u0 sen t)).setCell self ((npCF T.toThrowableT N.toNpeT cell self u0 sen t).setSlot T.fMsg.slot msg)).setTop { g with pc := g.pc + len }) target
  rw [setCell_twice, setCell_twice]
  exact hrest
end NPS
