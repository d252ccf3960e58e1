section NPC
variable {self : Addr}
theorem np_chain (p : Program) {e : Env} {below : List Frame} {s₀ V : State} {g : JFrame} {c : Code} (h : At V g.method c below) (hexec : p.tables.exec = Jvm.exec) (htr : e.platform.stackTraces = false)
    (T : ThrowableC) (L : T.Links e.platform s₀) (Z : Init0T) (LZ : Z.LaidS T.toThrowableT) (M : MsgC) (LM : M.Links T e.platform s₀) (N : NpeC) (LN : N.Links T e.platform s₀) (hW : s₀.WarmedH V.vm) {t : ThreadId} (ht : V.cur = t)
    {u0 sen : RefV} {msg : Value} (hmsg : msg.isRef = true) {cell cellS : Cell} {kcell : Class}
    (hcell : V.heap[self]? = some cell) (hobj : ∀ k, cell.vm ≠ .statics k) (hknown : cell.vm ≠ .unknown) (hfree : cell.monitor.owner = none)
    (hkcell : s₀.vm.classes[cell.cls]? = some kcell) (hsel0 : selectMethod e.platform s₀.vm cell.cls T.fill0 = .method T.fill0)
    (hcellS : V.heap[T.aS]? = some cellS) (hneS : T.aS ≠ self) (hknownS : cellS.vm ≠ .unknown) (hvU : cellS.slots[T.fUnassigned.slot]? = some u0.v) (hvSen : cellS.slots[T.fSentinel.slot]? = some sen.v)
    (hv0 : cell.slots[N.fState.slot]? = some (.int 0)) (hneC : T.fCause.slot ≠ N.fState.slot) (hneSt : T.fStack.slot ≠ N.fState.slot) (hneP : T.fSupp.slot ≠ N.fState.slot)
    (htC : Takes s₀ cell T.fCause (.ref self)) (htS : Takes s₀ cell T.fStack u0.v) (htP : Takes s₀ cell T.fSupp sen.v) (htM : Takes s₀ cell T.fMsg msg) (ht1 : Takes s₀ cell N.fState (.int 1)) (hobjLocals : T.codeObj.maxLocals = 1)
    (hselF : selectMethod e.platform s₀.vm cell.cls T.fill = .method N.fill)
    (hskip : SkipFacts T e.platform s₀ (fun u => u) u0 ((npeCell N.toNpeT (preparedCellV T.toThrowableT cell self u0 sen) t).withEntry t))
    (Ps : List PassC) (hL : ∀ P, P ∈ Ps → P.LinksS e.platform s₀) (hlink : PassesOn (Z.m T.toThrowableT) (Ps.map (·.toPassT))) {ig : Instr} {len : Nat} (acts : List Action)
    {lim : Nat × Nat} (hlim : e.platform.stackLimits V.me = lim) (hframes : V.frames.length + Ps.length + 3 < lim.1) (hwords : (stackUse (.java g :: V.frames.tail)).2 + 13 * Ps.length + 56 ≤ lim.2)
    (hdg : decode c.code g.pc = .ok (ig, len)) :
    ∃ vm', s₀.WarmedH vm' ∧ ∀ target, Steps p.tables e below (((V.setVm vm').setCell self ((npCF T.toThrowableT N.toNpeT cell self u0 sen t).setSlot T.fMsg.slot msg)).setTop { g with pc := g.pc + len }) target →
      Steps p.tables e below (doInvoke e (V.setTop g) acts (firstOf (Z.m T.toThrowableT) (Ps.map (·.toPassT))) #[.ref self, msg]).1 target := by
  obtain ⟨f1, -, -, f4, f5, f6⟩ := chainEnd_facts e.platform self msg (Ps.map (·.toPassT)) V g h.top
  have fc := chainEnd_cur self msg (Ps.map (·.toPassT)) V g
  rw [List.length_map] at f5 f6
  refine Steps.initChainSCold hexec (H := fun u => u.setCell self ((npCF T.toThrowableT N.toNpeT cell self u0 sen t).setSlot T.fMsg.slot msg)) (heapOnly_id.thenSetCell self _) (Z.m T.toThrowableT) hmsg lim Ps V g c ig len acts h hW hL hlink hdg hlim (by omega) (by omega) (fun vm1 hW1 c' ig' len' hA' hdg' => ?_)
  simp only [chainEnd_setVm] at hA' hdg' ⊢
  generalize chainEnd self msg V g (Ps.map (·.toPassT)) = E at f1 f4 f5 f6 fc hA' hdg' ⊢
  obtain ⟨vm2, hW2, st⟩ := np_initS p (V := E.1.setVm vm1) (g := E.2) (self := self) hA' hexec htr T L Z LZ M LM N LN hW1 (t := t) (fc.trans ht) hmsg
    (by show E.1.heap[self]? = _; rw [f1]; exact hcell) hobj hknown hfree hkcell hsel0 (by show E.1.heap[T.aS]? = _; rw [f1]; exact hcellS) hneS hknownS hvU hvSen hv0 hneC hneSt hneP htC htS htP htM ht1 hobjLocals hselF hskip
    [] (lim := lim) (by show e.platform.stackLimits E.1.me = lim; rw [f4]; exact hlim) (by show E.1.frames.length + 3 < lim.1; rw [f5]; omega)
    (by show (stackUse (.java E.2 :: E.1.frames.tail)).2 + 56 ≤ lim.2; rw [f6]; omega) hdg'
  exact ⟨vm2, hW2, fun t' hs => st t' (by rw [State.setVm_twice]; exact hs)⟩
end NPC
section NPT
variable {p : Program} {l : Launch} {e : Env} {R : Room} {s : State} {m₀ : MethodId} {args : Array Value} {below : List Frame} {meth : Method} {c : Code} {T' : State} {locs : List Loc} {cells slots : Nat}
theorem np_ctor (X : Stand p l e R s m₀ args below meth c T' locs cells slots) (hexec : p.tables.exec = Jvm.exec) (htr : e.platform.stackTraces = false) {g : JFrame} (hg : g.method = m₀) (hsize : g.locals.size = c.maxLocals)
    (T : ThrowableC) (L : T.Links e.platform s) (Z : Init0T) (LZ : Z.LaidS T.toThrowableT) (M : MsgC) (LM : M.Links T e.platform s) (N : NpeC) (LN : N.Links T e.platform s)
    (Ps : List PassC) (hL : ∀ P, P ∈ Ps → P.LinksS e.platform s) (hlink : PassesOn (Z.m T.toThrowableT) (Ps.map (·.toPassT)))
    {u0 sen : RefV} {self : Addr} {msg : Value} (hmsg : msg.isRef = true) {cell cellS : Cell} {kcell : Class}
    (hcell : T'.heap[self]? = some cell) (hobj : ∀ k, cell.vm ≠ .statics k) (hknown : cell.vm ≠ .unknown) (hfree : cell.monitor.owner = none) (hcount : cell.monitor.count = 0)
    (hkcell : s.vm.classes[cell.cls]? = some kcell) (hsel0 : selectMethod e.platform s.vm cell.cls T.fill0 = .method T.fill0) (hselF : selectMethod e.platform s.vm cell.cls T.fill = .method N.fill)
    (hcellS : T'.heap[T.aS]? = some cellS) (hneS : T.aS ≠ self) (hknownS : cellS.vm ≠ .unknown) (hvU : cellS.slots[T.fUnassigned.slot]? = some u0.v) (hvSen : cellS.slots[T.fSentinel.slot]? = some sen.v)
    (hv0 : cell.slots[N.fState.slot]? = some (.int 0)) (hneC : T.fCause.slot ≠ N.fState.slot) (hneSt : T.fStack.slot ≠ N.fState.slot) (hneP : T.fSupp.slot ≠ N.fState.slot)
    (htC : Takes s cell T.fCause (.ref self)) (htS : Takes s cell T.fStack u0.v) (htP : Takes s cell T.fSupp sen.v) (htM : Takes s cell T.fMsg msg) (ht1 : Takes s cell N.fState (.int 1)) (hobjLocals : T.codeObj.maxLocals = 1)
    (hskip : SkipFacts T e.platform s (fun u => u) u0 ((npeCell N.toNpeT (preparedCellV T.toThrowableT cell self u0 sen) T'.cur).withEntry T'.cur))
    {ig : Instr} {len : Nat} (acts : List Action) (hdg : decode c.code g.pc = .ok (ig, len))
    (hRframes : Ps.length + 3 < R.frames) (hRlocals : 2 * g.monitorRoom + (g.stack.map fun v => v.category).sum + (13 * Ps.length + 56) ≤ R.locals) :
    ∃ vm', Stand p l e R s m₀ args below meth c ((T'.setVm vm').setCell self ((npeBareV T.toThrowableT N.toNpeT cell self u0 sen).setSlot T.fMsg.slot msg)) (locs ++ [⟨self, T.fCause.slot⟩, ⟨self, T.fStack.slot⟩, ⟨self, T.fSupp.slot⟩, ⟨self, N.fState.slot⟩, ⟨self, T.fStack.slot⟩, ⟨self, T.fMsg.slot⟩]) cells slots ∧
      ∀ target, Steps p.tables e below (((T'.setVm vm').setCell self ((npeBareV T.toThrowableT N.toNpeT cell self u0 sen).setSlot T.fMsg.slot msg)).setTop { g with pc := g.pc + len }) target →
        Steps p.tables e below (doInvoke e (T'.setTop g) acts (firstOf (Z.m T.toThrowableT) (Ps.map (·.toPassT))) #[.ref self, msg]).1 target := by
  have h : At T' g.method c below := by rw [hg]; exact X.here
  have hfr' : T'.frames.length + Ps.length + 3 < (e.platform.stackLimits T'.me).1 := by have := X.framesAbove hRframes; omega
  have hwd' : (stackUse (.java g :: T'.frames.tail)).2 + 13 * Ps.length + 56 ≤ (e.platform.stackLimits T'.me).2 := by have := X.stackAbove hsize (K := 13 * Ps.length + 56) hRlocals; omega
  obtain ⟨vm', hW', st⟩ := np_chain p (s₀ := s) (V := T') (g := g) (self := self) h hexec htr T L Z LZ M LM N LN X.warmed (t := T'.cur) rfl hmsg
    hcell hobj hknown hfree hkcell hsel0 hcellS hneS hknownS hvU hvSen hv0 hneC hneSt hneP htC htS htP htM ht1 hobjLocals hselF hskip Ps hL hlink acts rfl hfr' hwd' hdg
  rw [show npCF T.toThrowableT N.toNpeT cell self u0 sen T'.cur = npeBareV T.toThrowableT N.toNpeT cell self u0 sen from npeBareV_eq T.toThrowableT N.toNpeT self u0 sen T'.cur hfree hcount] at st
  have X2 := X.noted hW'
  have ha : self < (T'.setVm vm').heap.size := (Array.getElem?_eq_some_iff.mp hcell).1
  have X3 := (((((X2.stored (a := self) hcell T.fCause.slot (.ref self)).storedAgain ha T.fStack.slot u0.v).storedAgain ha T.fSupp.slot sen.v).storedAgain ha N.fState.slot (.int 1)).storedAgain ha T.fStack.slot u0.v).storedAgain ha T.fMsg.slot msg
  refine ⟨vm', ?_, st⟩
  simpa only [List.append_assoc, List.cons_append, List.nil_append] using X3
end NPT
