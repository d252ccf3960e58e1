/-! making: arrays of references, calls of constructors -/
theorem arrV_cg {c : ClassId} {N : Nat} {f g : Nat → Value} (h : ∀ j, j < N → f j = g j) : arrV c N f = arrV c N g := by
  unfold arrV
  have : (Array.ofFn (n := N) fun j => f j.val) = Array.ofFn (n := N) fun j => g j.val := congrArg _ (funext fun j => h j.val j.isLt)
  rw [this]
theorem at_q {G : Gm} {c : ClassId} {N a : Nat} {f g : Nat → Option Nat} {H : Heap} (h : ∀ j, j < N → f j = g j) (ha : va_at G.1 sc_cl (a, .inl (c, N, .inr (.inr (.inr (.inr f))))) H) : va_at G.1 sc_cl (a, .inl (c, N, .inr (.inr (.inr (.inr g))))) H := by
  have ha : H[a]? = some (vp_cell c (N, .inr (.inr (.inr (.inr f))))) := ha
  show H[a]? = some (vp_cell c (N, .inr (.inr (.inr (.inr g)))))
  rw [ha, vp_cell_q, vp_cell_q]
  exact congrArg some (arrV_cg (fun j hj => by rw [h j hj]))
theorem out_arr (c : ClassId) (N h0 : Nat) : ∀ i : Nat, Jvm.Free.Multi.outerC c N h0 i = arrV c N (fun j => va_rf (if j < i then some (h0 + 1 + j) else none))
  | 0 => by
    show ({ cls := c, slots := Array.replicate N .null, vm := .none } : Cell) = _
    rw [arrV_new]
    refine congrArg (arrV c N) (funext fun j => ?_)
    simp [va_rf]
  | i + 1 => by
    show (Jvm.Free.Multi.outerC c N h0 i).setSlot i (.ref (h0 + 1 + i)) = _
    rw [out_arr c N h0 i, arrV_store]
    refine congrArg (arrV c N) (funext fun j => ?_)
    by_cases e : j = i
    · subst e; simp [updV, va_rf]
    · by_cases h : j < i
      · simp [updV, e, h, Nat.lt_succ_of_lt h]
      · simp [updV, e, h, show ¬ j < i + 1 by omega]
/-- N rows of K ints -/
def mx (G : Gm) (n N K : Nat) (X : Nat → va_E) : Nat → va_E := fun o => if o = n then .inl (G.2.1 3, N, .inr (.inr (.inr (.inr (fun j => some (G.2.2 (n + 1 + j))))))) else if n < o ∧ o ≤ n + N then .inl (G.2.1 0, K, .inl (fun _ => 0)) else X o
section CYM
variable {p : Program} {l : Launch} {e : Env} {R : Room} {s : State} {m : MethodId} {args : Array Value} {below : List Frame} {meth : Method} {c : Code} {H H0 : Heap} {locs : List Loc} {cells slots : Nat} {Q : State → Prop}
variable {cc : ByteArray} {pc nL n : Nat} {ls : Array Slot} {rest : List Value} {own : String} {G : Gm} {X : Nat → va_E}
theorem cx_mna (C : Cy p s m args c cc nL own G) (hX : PX G n X H) (hS : va_S (AB G) H0 H locs) {ix : Nat} (hcl : Cond.classLink own ix "[[I" ∈ gw) {a b : Int32} {N K : Nat} (hn : ¬ a < 0) (hk : ¬ b < 0) (hN : a.toNatClampNeg = N) (hM : b.toNatClampNeg = K) (hb1 : N * 4 ≤ 536870912) (hb2 : K * 4 ≤ 536870912) (hcells : cells + (1 + N) ≤ R.cells) (hslots : slots + (N + N * K) ≤ R.slots) (hdg : decode cc pc = .ok (.multianewarray ix 2, 4))
    (kk : ∀ H : Heap, PX G (n + 1 + N) (mx G n N K X) H → va_S (AB G) H0 H locs → W p l e R s m args below meth c H locs (cells + 1 + N) (slots + N + N * K) Q (F0 m (pc + 4) ls (.ref (G.2.2 n) :: rest))) : W p l e R s m args below meth c H locs cells slots Q (F0 m pc ls (.int b :: .int a :: rest)) := by
  obtain ⟨⟨hx, hb, -, hown, hg, hK, -, -⟩, hA, hAO⟩ := C
  subst hN
  subst hM
  intro T hT Xs
  obtain ⟨vm₁, cA, comp, -, fA, fC, hO, -, X', step⟩ := Xs.multianewarray2F (ty := .int) hx hown (hg _ hcl) hAO.2 (hg _ q_45) (g := F0 m pc ls (.int b :: .int a :: rest)) rfl (by rw [hb]; exact hdg) rfl hn hk hb1 hb2 (by omega) rfl rfl hcells hslots
  have ec : some (G.2.1 0) = some comp := ((hK.2 0 (G.2.1 0, .int) rfl).2).symm.trans fC
  have ec := Option.some.inj ec
  subst ec
  have eA : cA = G.2.1 3 := Option.some.inj (fA.symm.trans (hK.2 3 (G.2.1 3, .array .int) rfl).2)
  subst eA
  generalize hF : Jvm.Free.Multi.fill (T.setVm vm₁) (G.2.1 3) (G.2.1 0) a.toNatClampNeg b.toNatClampNeg (defaultValue .int) a.toNatClampNeg = F at X' step
  have hTh : (T.setVm vm₁).heap = H := hT
  obtain ⟨f1, f2, -, -⟩ := Jvm.Free.Multi.fill_facts (T.setVm vm₁) (G.2.1 3) (G.2.1 0) a.toNatClampNeg b.toNatClampNeg (defaultValue .int) a.toNatClampNeg
  rw [hF, hTh] at f1 f2
  have hold : ∀ x : Nat, x < H.size → F.heap[x]? = H[x]? := fun x hx => by
    have := Jvm.Free.Multi.fill_old (T.setVm vm₁) (G.2.1 3) (G.2.1 0) a.toNatClampNeg b.toNatClampNeg (defaultValue .int) (a := x) (by rw [hTh]; exact hx) a.toNatClampNeg
    rw [hF, hTh] at this
    exact this
  have hrow : ∀ j : Nat, j < a.toNatClampNeg → F.heap[H.size + 1 + j]? = some (arrV (G.2.1 0) b.toNatClampNeg (fun _ => .int 0)) := fun j hj => by
    have := Jvm.Free.Multi.fill_inner (T.setVm vm₁) (G.2.1 3) (G.2.1 0) a.toNatClampNeg b.toNatClampNeg (defaultValue .int) a.toNatClampNeg j hj
    rw [hF, hTh] at this
    rw [this, ← arrV_new]
    rfl
  rw [out_arr] at f2
  have hsz := hX.1
  have hPX : PX G (n + 1 + a.toNatClampNeg) (mx G n a.toNatClampNeg b.toNatClampNeg X) F.heap := by
    refine ⟨by rw [f1, hsz, hA n, hA (n + 1 + a.toNatClampNeg)]; omega, fun k q hq => ?_⟩
    obtain ⟨hk', rfl⟩ := wx_le hq
    unfold mx
    by_cases e1 : k = n
    · subst e1
      rw [if_pos rfl]
      show F.heap[G.2.2 k]? = some (vp_cell _ _)
      rw [← hsz, f2, vp_cell_q]
      refine congrArg some (arrV_cg (fun j hj => ?_))
      rw [if_pos hj, hsz, hA (k + 1 + j), hA k]
      refine congrArg (fun z => va_rf (some z)) ?_
      omega
    · rw [if_neg e1]
      by_cases e2 : n < k ∧ k ≤ n + a.toNatClampNeg
      · rw [if_pos e2]
        show F.heap[G.2.2 k]? = some (vp_cell _ _)
        rw [show G.2.2 k = H.size + 1 + (k - n - 1) by rw [hsz, hA k, hA n]; omega, hrow _ (by omega)]
        rfl
      · rw [if_neg e2]
        have h1 := hX.2 k _ (wx_at (by omega))
        exact h1.kept (hold _ h1.lt)
  obtain ⟨t, a1, b1⟩ := kk F.heap hPX (AB.new hA hX (by rw [f1]; omega) hold hS) F rfl X'
  refine ⟨t, step t ?_, b1⟩
  have e : T.heap.size = G.2.2 n := by rw [hT]; exact hsz
  rw [e]
  exact a1
/-- anewarray of routines -/
theorem cx_anew (C : Cy p s m args c cc nL own G) (hX : PX G n X H) (hS : va_S (AB G) H0 H locs) {ix : Nat} (hcl : Cond.classLink own ix RX5 ∈ gw) {a : Int32} {N : Nat} (hn : ¬ a < 0) (hN : a.toNatClampNeg = N) (hb1 : N * 4 ≤ 536870912) (hcells : cells + 1 ≤ R.cells) (hslots : slots + N ≤ R.slots) (hdg : decode cc pc = .ok (.anewarray ix, 3))
    (kk : ∀ H : Heap, PX G (n + 1) (ux X n (.inl (G.2.1 2, N, .inr (.inr (.inr (.inr (fun _ => none))))))) H → va_S (AB G) H0 H locs → W p l e R s m args below meth c H locs (cells + 1) (slots + N) Q (F0 m (pc + 3) ls (.ref (G.2.2 n) :: rest))) : W p l e R s m args below meth c H locs cells slots Q (F0 m pc ls (.int a :: rest)) := by
  obtain ⟨⟨hx, hb, -, hown, hg, hK, -, -⟩, hA, hAO⟩ := C
  subst hN
  refine W.anew hx hb hown (hg _ hcl) hAO.1 rfl hdg rfl hn hb1 hcells hslots fun cA kA comp f1 f2 f3 f4 => ?_
  generalize hH1 : H.push ({ cls := cA, slots := Array.replicate a.toNatClampNeg .null, vm := .none } : Cell) = H1
  have z1 : H1.size = H.size + 1 := by rw [← hH1, Array.size_push]
  have e1 : H1[H.size]? = some (arrV cA a.toNatClampNeg (fun _ => .null)) := by rw [← hH1, Array.getElem?_push_size, ← arrV_new]
  have o1 : ∀ q : Nat, q < H.size → H1[q]? = H[q]? := fun q hq => by rw [← hH1, Array.getElem?_push, if_neg (Nat.ne_of_lt hq)]
  obtain ⟨kA', comp', g1, g2, g3, g4⟩ := (hK.2 2 (G.2.1 2, .object "SelfChange$Routine") rfl).2
  have eA : cA = G.2.1 2 := Option.some.inj (f1.symm.trans g4)
  subst eA
  have := kk H1 (hX.push hA z1 o1 (by show H1[G.2.2 n]? = some (vp_cell _ _); rw [← hX.1, e1]; rfl)) (AB.new hA hX (by omega) o1 hS)
  rw [hX.1]
  exact this
/-- a routine's reference into the array -/
theorem cx_aast (C : Cy p s m args c cc nL own G) (hX : PX G n X H) (hS : va_S (AB G) H0 H locs) {o v N : Nat} {f : Nat → Option Nat} {fs : List Value} {i : Int32} (ho : o < n) (hv : v < n) (hXo : X o = .inl (G.2.1 2, N, .inr (.inr (.inr (.inr f))))) (hXv : X v = .inr (5, fs)) (hin : vp_in i N) (hdg : decode cc pc = .ok (.aastore, 1))
    (kk : ∀ (H : Heap) (locs : List Loc), PX G n (ux X o (.inl (G.2.1 2, N, .inr (.inr (.inr (.inr (va_up f i.toNatClampNeg (some (G.2.2 v))))))))) H → va_S (AB G) H0 H locs → W p l e R s m args below meth c H locs cells slots Q (F0 m (pc + 1) ls rest)) : W p l e R s m args below meth c H locs cells slots Q (F0 m pc ls (.ref (G.2.2 v) :: .int i :: .ref (G.2.2 o) :: rest)) := by
  obtain ⟨⟨hx, hb, -, hown, hg, hK, -, -⟩, hA, hAO⟩ := C
  have hlt : i.toNatClampNeg < N := Nat.not_le.mp fun q => hin (Or.inr q)
  have h0 : ¬ i < 0 := fun q => hin (Or.inl q)
  have hv' := hX.2 v _ (wx_at hv)
  rw [hXv] at hv'
  obtain ⟨r', hr', cellV, g1, g2, g3, -⟩ := hv'
  have ha := hX.2 o _ (wx_at ho)
  rw [hXo] at ha
  have hcls := (hK.1 5 (RX5, TX5, 5) rfl).2
  obtain ⟨kA, comp, k1, k2, k3, -⟩ := (hK.2 2 (G.2.1 2, .object "SelfChange$Routine") rfl).2
  have hcomp : comp = G.1.1 5 := Option.some.inj (k3.symm.trans hcls.1)
  subst hcomp
  obtain ⟨kC, hkC, -⟩ := hcls.2
  refine W.aast hx hb ha (fun q h => by cases h) (fun h => by cases h) k1 k2 rfl hkC ⟨h0, by show _ < (arrV _ _ _).slots.size; rw [arrV_size]; exact hlt⟩ g1 (fun q h => by rw [g3] at h; cases h) (by rw [g2]; exact hkC) (by rw [g2]; exact va_assign hcls) rfl rfl hdg fun H1 e z oq => ?_
  obtain ⟨a1, a2⟩ := PX.put (k := i.toNatClampNeg) hA hX hS ho z oq (e1 := .inl (G.2.1 2, N, .inr (.inr (.inr (.inr (va_up f i.toNatClampNeg (some (G.2.2 v)))))))) (by
    show H1[G.2.2 o]? = some (vp_cell _ _)
    rw [e, vp_cell_q]
    refine congrArg some ?_
    rw [vp_cell_q, arrV_store]
    refine arrV_cg (fun j _ => ?_)
    by_cases hq : j = i.toNatClampNeg
    · subst hq; simp [updV, va_up, va_rf]
    · simp [updV, va_up, hq])
  exact kk H1 _ a1 a2
/-- a constructor's contract -/
abbrev Mc (l : Launch) (y : MethodName) (cc : ByteArray) (nL : Nat) (fr ce sl lo : Nat) (G : Gm) (av : List Value) (n : Nat) (X : Nat → va_E) (n' : Nat) (X' : Nat → va_E) : Prop :=
  Met l y (.code y cc nL none :: gw) { frames := fr, cells := ce, slots := sl, locals := lo } (va_Pc av (SX G n X)) (va_Qv (fun _ : Unit => True) (fun _ t => SX G n' X' t) (AB G)) ce sl (AB G)
theorem cx_call (C : Cy p s m args c cc nL own G) (hX : PX G n X H) (hS : va_S (AB G) H0 H locs) {y : MethodName} {yc : ByteArray} {yn fr ce sl lo n' k ix h : Nat} {X' : Nat → va_E} {As st0 : List Value} (hM : Mc l y yc yn fr ce sl lo G (.ref (G.2.2 h) :: As) n X n' X') (mw : MW y yc yn none k) (h1 : Cond.instanceMethod y ∈ gw) (hl : Cond.methodLink own ix y ∈ gw) (hnm : y.name = "<init>") (hn : As.length = k) (hsize : ls.size = nL) (hst : st0 = As.reverse ++ .ref (G.2.2 h) :: rest) (hW : (rest.map fun v => v.category).sum ≤ 8) (hR : fr + 1 ≤ R.frames ∧ 8 + (yn + 11) + lo ≤ R.locals) (hdg : decode cc pc = .ok (.invokespecial ix, 3)) (hf : cells + ce ≤ R.cells ∧ slots + sl ≤ R.slots)
    (kk : ∀ (H : Heap) (locs : List Loc), PX G n' X' H → va_S (AB G) H0 H locs → W p l e R s m args below meth c H locs (cells + ce) (slots + sl) Q (F0 m (pc + 3) ls rest)) : W p l e R s m args below meth c H locs cells slots Q (F0 m pc ls st0) := by
  obtain ⟨⟨hx, hb, hml, hown, hg, hK, hN, hi⟩, hA, hAO⟩ := C
  refine va_callv (va_runI (Ts := gw) ⟨hx, hb, hml, hown, hg⟩ hM ⟨callB_of k hg (gw_in (fun _ h => h) mw.1) rfl rfl rfl (hg _ mw.2.1) (hg _ hl) mw.2.2 hR, hnm, hg _ h1⟩ ⟨SX.blind, fun U hU hW => ⟨rfl, by rw [hU]; exact hX, va_K.moved hW.alike hK, hN.warm hW, AO.moved hW.alike hAO⟩⟩ rfl hn hsize hst (lv_room hW) hdg hf) hS (fun q _ h => h) (fun q h => h) (fun u t H1 locs1 ht _ _ hB _ _ hS1 => kk H1 locs1 (by rw [← ht]; exact hB.1) hS1)
theorem cx_vret {n' : Nat} {X' : Nat → va_E} (C : Cy p s m args c cc nL own G) (hr : meth.sig.returnType = none) (hlocks : meth.locks = false) (hX : PX G n' X' H) (hS : va_S (AB G) s.heap H locs) (hdg : decode cc pc = .ok (.return_, 1)) : W p l e R s m args below meth c H locs cells slots (MQ below (va_Qv (fun _ : Unit => True) (fun _ t => SX G n' X' t) (AB G)) args s cells slots (AB G)) (F0 m pc ls []) := by
  obtain ⟨⟨hx, hb, hml, hown, hg, hK, hN, hi⟩, hA, hAO⟩ := C
  exact W.vret hx hb hr (fun t ht hW => ⟨⟨(), rfl, trivial, by rw [ht]; exact hX, va_K.moved hW.alike hK, hN.warm hW, AO.moved hW.alike hAO⟩, hS.F ht⟩) hS.2.2 hdg hlocks
theorem cx_obj (C : Cy p s m args c cc nL own G) {ix a : Nat} (hl : Cond.methodLink own ix objectInit ∈ gw) (hsize : ls.size = nL) (hdg : decode cc pc = .ok (.invokespecial ix, 3)) (hf : 1 ≤ R.frames) (hlo : (rest.map fun v => v.category).sum + 12 ≤ R.locals) (kk : W p l e R s m args below meth c H locs cells slots Q (F0 m (pc + 3) ls rest)) : W p l e R s m args below meth c H locs cells slots Q (F0 m pc ls (.ref a :: rest)) := by
  obtain ⟨⟨hx, hb, hml, hown, hg, hK, hN, hi⟩, hA, hAO⟩ := C
  exact W.objInit hx hb hown (hg _ hl) (hg _ w_27) (hg _ w_28) rfl (by rw [hml]; exact hsize) rfl hdg hf (by show 2 * 0 + _ + 12 ≤ _; omega) kk
end CYM
/-- a constructor's beginning -/
theorem cx_head {l : Launch} {y : MethodName} {cc : ByteArray} {nL : Nat} {fr ce sl lo : Nat} {G : Gm} {av : List Value} {n n' : Nat} {X X' : Nat → va_E} {lv : List (Nat × Value)} (hA : Ad G) (hi : Inj G) (hy : plainName y.cls = true) (hnm : y.name = "<init>") (hlen : (lg_sl av).length ≤ nL) (hlv : lv_args 0 av = lv)
    (body : ∀ (p : Program) (e : Env) (s : State) (m : MethodId) (below : List Frame) (meth : Method) (c : Code), Cy p s m av.toArray c cc nL y.cls G → meth.sig.returnType = none → meth.locks = false → meth.name = "<init>" → PX G n X s.heap → va_S (AB G) s.heap s.heap [] → ∀ ls : Array Slot, lv_has ls nL lv →
      W p l e { frames := fr, cells := ce, slots := sl, locals := lo } s m av.toArray below meth c s.heap [] 0 0 (MQ below (va_Qv (fun _ : Unit => True) (fun _ t => SX G n' X' t) (AB G)) av.toArray s ce sl (AB G)) (F0 m 0 ls [])) : Mc l y cc nL fr ce sl lo G av n X n' X' := by
  refine Met.ofW (cc := cc) (maxL := nL) (ret := none) hy rfl ?_
  intro p e s m args below meth c s₁ B hml hv
  obtain ⟨rfl, hP, hK, hN, hAO⟩ := hv
  have hts := atoms_spec (ws := .code y cc nL none :: gw) B.pre
  rw [lg_entry_eq]
  subst hlv
  exact body p e s m below meth c ⟨⟨B.exec, B.bytes, hml, findClass_of_methodNamed B.named, fun w hw => hts w (List.mem_cons_of_mem _ hw), hK, hN, hi⟩, hA, hAO⟩ B.returns B.notSynchronized ((name_of_methodNamed B.named B.method).1.trans hnm) hP va_S.rf _ (lv_entry av hlen)
