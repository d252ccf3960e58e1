/-! what the throwing methods' contracts carry beside the world -/
def dcl : List MethodName := [⟨"java/lang/Throwable", "fillInStackTrace", "()Ljava/lang/Throwable;"⟩, ⟨"java/lang/IndexOutOfBoundsException", "<init>", "()V"⟩, ⟨"java/lang/IndexOutOfBoundsException", "<init>", "(Ljava/lang/String;)V"⟩, ⟨"java/lang/RuntimeException", "<init>", "()V"⟩, ⟨"java/lang/RuntimeException", "<init>", "(Ljava/lang/String;)V"⟩, ⟨"java/lang/Exception", "<init>", "()V"⟩, ⟨"java/lang/Exception", "<init>", "(Ljava/lang/String;)V"⟩, ⟨"java/lang/Throwable", "<init>", "()V"⟩, ⟨"java/lang/Throwable", "<init>", "(Ljava/lang/String;)V"⟩]
def cst : List (String × String) := [("java/lang/ArrayIndexOutOfBoundsException", "java/lang/ArrayIndexOutOfBoundsException"), ("java/lang/NullPointerException", "java/lang/NullPointerException"), ("java/lang/RuntimeException", "java/lang/Throwable"), ("java/lang/ArithmeticException", "java/lang/ArithmeticException")]
abbrev eAI : String := "java/lang/ArrayIndexOutOfBoundsException"
abbrev eNP : String := "java/lang/NullPointerException"
abbrev eAR : String := "java/lang/ArithmeticException"
def XW (sa : Nat × Nat × Nat × Nat) (U : State) : Prop := (∀ x ∈ dcl, va_Nw (.declares x) U) ∧ (∀ x ∈ cst, va_Nw (.castable x.1 x.2) U) ∧ va_Nc eAI eNP U ∧ vk_R RX6 83 "the place is not 0 .. 255" sa.1 U ∧ vk_R RX6 141 "the routine has no member" sa.2.1 U ∧ vk_R RX6 144 "the member has not so many heads" sa.2.2.1 U ∧ vk_R RX6 237 "no steps were walked" sa.2.2.2 U
theorem XW.warm {sa : Nat × Nat × Nat × Nat} {s U : State} (hW : s.WarmedH U.vm) (h : XW sa s) : XW sa U := ⟨fun x hx => va_Nw.warmD hW (h.1 x hx), fun x hx => va_Nw.warmC hW (h.2.1 x hx), va_Nc.moved hW.alike h.2.2.1, vk_R.warm hW h.2.2.2.1, vk_R.warm hW h.2.2.2.2.1, vk_R.warm hW h.2.2.2.2.2.1, vk_R.warm hW h.2.2.2.2.2.2⟩
theorem XW.same {sa : Nat × Nat × Nat × Nat} {s U : State} (hv : U.vm = s.vm) (h : XW sa s) : XW sa U := ⟨fun x hx => va_Nw.same rfl hv.symm (h.1 x hx), fun x hx => va_Nw.same rfl hv.symm (h.2.1 x hx), va_Nc.moved (by rw [hv]; exact Vm.Alike.refl s.vm) h.2.2.1, vk_R.same hv h.2.2.2.1, vk_R.same hv h.2.2.2.2.1, vk_R.same hv h.2.2.2.2.2.1, vk_R.same hv h.2.2.2.2.2.2⟩
def ZW (A : Nat → Prop) (U : State) (H : Heap) : Prop := vx_Zq Bundle.tN "UNASSIGNED_STACK" Bundle.steD A U H ∧ vx_Zq Bundle.tN "SUPPRESSED_SENTINEL" Bundle.listD A U H
theorem ZW.moved {A : Nat → Prop} {u U : State} {H : Heap} (hvm : u.vm.Alike U.vm) (h : ZW A u H) : ZW A U H := ⟨h.1.moved hvm, h.2.moved hvm⟩
theorem ZW.kept {A : Nat → Prop} {U : State} {H H1 : Heap} (h : ZW A U H) (hq : ∀ a : Nat, a < H.size → ¬ A a → H1[a]? = H[a]?) : ZW A U H1 := ⟨h.1.kept hq, h.2.kept hq⟩
theorem ZW.narrow {A B : Nat → Prop} {U : State} {H : Heap} (h : ZW A U H) (hAB : ∀ q, B q → A q) : ZW B U H := ⟨h.1.narrow hAB, h.2.narrow hAB⟩
/-- the world with all that a throw needs -/
def SZ (G : Gm) (sa : Nat × Nat × Nat × Nat) (T : St) (U : State) : Prop := Sy G T U ∧ XW sa U ∧ ZW (SA G) U U.heap
theorem SZ.blind {G : Gm} {sa : Nat × Nat × Nat × Nat} {T : St} {av : List Value} : FrameBlind (va_Pc av (SZ G sa T)) := fun a U g mk h => ⟨h.1, (Sy.blind (G := G) (T := T) (av := av) a U g mk ⟨h.1, h.2.1⟩).2, XW.same (s := U) (U := U.calling g mk a) rfl h.2.2.1, ZW.moved (u := U) (U := U.calling g mk a) (Vm.Alike.refl U.vm) h.2.2.2⟩
def bw : List Cond := dcl.map .declares ++ cst.map (fun x => .castable x.1 x.2)
theorem bw_ok {sa : Nat × Nat × Nat × Nat} {s : State} {args : Array Value} (h : XW sa s) : ∀ w ∈ bw, w.before args s = true := fun w hw => by
  rcases List.mem_append.mp hw with h1 | h1
  · obtain ⟨x, hx, rfl⟩ := List.mem_map.mp h1
    exact va_Nw.use rfl (h.1 x hx)
  · obtain ⟨x, hx, rfl⟩ := List.mem_map.mp h1
    exact va_Nw.use rfl (h.2.1 x hx)
theorem at_w {L : List Cond} (h1 : L.all (fun w => decide (w ∈ lw_tbl)) = true) (h2 : (L.filter (fun w => !goodWord w)).all (fun w => decide (w ∈ bw)) = true) {sa : Nat × Nat × Nat × Nat} {s : State} {args : Array Value} (hg : ∀ w ∈ gw, w.before args s = true) (hX : XW sa s) : ∀ w ∈ L, w.before args s = true :=
  vx_hat (B := bw) (fun w hw => hg w (List.mem_filter.mpr ⟨of_decide_eq_true (List.all_eq_true.mp h1 w (List.mem_filter.mp hw).1), (List.mem_filter.mp hw).2⟩)) (fun w hw => of_decide_eq_true (List.all_eq_true.mp h2 w hw)) (bw_ok hX)
theorem bt_ai : ((vx_atS RX6 85 eAI nAI).filter (fun w => !goodWord w)).all (fun w => decide (w ∈ bw)) = true := by decide +kernel
theorem bt_ar : ((vx_atS RX6 239 eAR nAR).filter (fun w => !goodWord w)).all (fun w => decide (w ∈ bw)) = true := by decide +kernel
theorem ot_ai : (vx_atS RX6 85 eAI nAI).all vx_ot = true := by decide +kernel
theorem ot_ar : (vx_atS RX6 239 eAR nAR).all vx_ot = true := by decide +kernel
theorem q_670 : Cond.classLink RX6 81 eAI ∈ gw := gw_t 670 (by decide +kernel) (by decide +kernel)
theorem q_706 : Cond.classLink RX6 139 eNP ∈ gw := gw_t 706 (by decide +kernel) (by decide +kernel)
theorem q_734 : Cond.classLink RX6 235 eAR ∈ gw := gw_t 734 (by decide +kernel) (by decide +kernel)
theorem q_580 : Cond.classLink RL 13 eAI ∈ gw := gw_t 580 (by decide +kernel) (by decide +kernel)
theorem q_676 : Cond.classLink RL 19 eNP ∈ gw := gw_t 676 (by decide +kernel) (by decide +kernel)
theorem q_716 : Cond.classLink RL 25 eAR ∈ gw := gw_t 716 (by decide +kernel) (by decide +kernel)
/-- what leaves a throwing method by its throw -/
def XQ (G : Gm) (px : String → St → Prop) : String → State → State → Prop := vx_X (S := String × St) (fun u => px u.1 u.2) (fun E u t => E = u.1 ∧ va_P G.1 sc_cl (wd G u.2) t.heap) (SA G)
abbrev Mx (l : Launch) (y : MethodName) (cc : ByteArray) (nL : Nat) (fr sl lo : Nat) (G : Gm) (sa : Nat × Nat × Nat × Nat) (av : List Value) (T : St) (post : Int32 → St → Prop) (px : String → St → Prop) : Prop :=
  vx_Met l y (.code y cc nL (some .int) :: gw) { frames := fr, cells := 1, slots := sl, locals := lo } (va_Pc av (SZ G sa T)) (va_Qi post (Sy G) (SA G)) (XQ G px) 1 sl (SA G)
theorem sz_head {l : Launch} {y : MethodName} {cc : ByteArray} {nL : Nat} {fr sl lo : Nat} {G : Gm} {sa : Nat × Nat × Nat × Nat} {av : List Value} {T : St} {post : Int32 → St → Prop} {px : String → St → Prop} {lv : List (Nat × Value)} (hi : Inj G) (hy : plainName y.cls = true) (hlen : (lg_sl av).length ≤ nL) (hlv : lv_args 0 av = lv)
    (body : ∀ (p : Program) (e : Env) (s : State) (m : MethodId) (below : List Frame) (meth : Method) (c : Code), Cx p s m av.toArray c cc nL y.cls G → meth.sig.returnType = some .int → meth.locks = false → va_P G.1 sc_cl (wd G T) s.heap → va_S (SA G) s.heap s.heap [] → XW sa s → ZW (SA G) s s.heap → (∀ x ∈ c.exceptionTable.toList, False) → ∀ ls : Array Slot, lv_has ls nL lv →
      W p l e { frames := fr, cells := 1, slots := sl, locals := lo } s m av.toArray below meth c s.heap [] 0 0 (vx_MQ below (va_Qi post (Sy G) (SA G)) (XQ G px) av.toArray s 1 sl (SA G)) (F0 m 0 ls [])) : Mx l y cc nL fr sl lo G sa av T post px := by
  refine vx_ofW (cc := cc) (maxL := nL) (ret := some .int) hy rfl ?_
  intro p e s m args below meth c s₁ B hml ht hv
  obtain ⟨rfl, ⟨hP, hK, hN⟩, hX, hZ⟩ := hv
  have hts := atoms_spec (ws := .code y cc nL (some .int) :: gw) B.pre
  rw [lg_entry_eq]
  subst hlv
  exact body p e s m below meth c ⟨B.exec, B.bytes, hml, findClass_of_methodNamed B.named, fun w hw => hts w (List.mem_cons_of_mem _ hw), hK, hN, hi⟩ B.returns B.notSynchronized hP va_S.rf hX hZ ht _ (lv_entry av hlen)
section SZR
variable {p : Program} {l : Launch} {e : Env} {R : Room} {s : State} {m : MethodId} {args : Array Value} {below : List Frame} {meth : Method} {c : Code} {H H0 : Heap} {locs : List Loc} {cells slots : Nat} {Q : State → Prop} {A : Nat → Prop}
variable {cc : ByteArray} {pc nL sl : Nat} {ls : Array Slot} {rest : List Value} {own : String} {G : Gm} {T : St} {sa : Nat × Nat × Nat × Nat}
theorem sz_iret {post : Int32 → St → Prop} {px : String → St → Prop} {v : Int32} (C : Cx p s m args c cc nL own G) (hr : meth.sig.returnType = some .int) (hlocks : meth.locks = false) (hP : va_P G.1 sc_cl (wd G T) H) (hS : va_S (SA G) s.heap H locs) (hp : post v T) (hdg : decode cc pc = .ok (.ireturn, 1)) : W p l e R s m args below meth c H locs 0 0 (vx_MQ below (va_Qi post (Sy G) (SA G)) (XQ G px) args s 1 sl (SA G)) (F0 m pc ls [.int v]) :=
  W.widen (k := 1) (n := sl) (Nat.zero_le _) (Nat.zero_le _) (vx_ret (W.iret C.1 C.2.1 hr (fun t ht hW => ⟨⟨v, T, rfl, hp, Sy.to hP C.2.2.2.2.2.1 C.2.2.2.2.2.2.1 ht hW⟩, hS.F ht⟩) hS.2.2 hdg hlocks))
theorem sz_ai {post : Int32 → St → Prop} {px : String → St → Prop} {is a : Nat} {tx : String} (C : Cx p s m args c cc nL RX6 G) (hl : l.stackTraces = false) (hlocks : meth.locks = false) (hX : XW sa s) (hZ : ZW (SA G) s s.heap) (hstr : vk_R RX6 is tx a s) (ht : ∀ x ∈ c.exceptionTable.toList, False) (hP : va_P G.1 sc_cl (wd G T) H) (hS : va_S (SA G) s.heap H locs) (hp : px eAI T) (hsize : ls.size = nL) (d0 : decode cc pc = .ok (.new 81, 3)) (d3 : decode cc (pc + 3) = .ok (.dup, 1)) (d4 : decode cc (pc + 4) = .ok (.ldc is, 2)) (d6 : decode cc (pc + 6) = .ok (.invokespecial 85, 3)) (d9 : decode cc (pc + 9) = .ok (.athrow, 1)) (hf : 6 < R.frames) (hlo : (rest.map fun v => v.category).sum + 95 ≤ R.locals) (hc : 1 ≤ R.cells) (hs : 6 ≤ R.slots) (hsl : 6 ≤ sl) : W p l e R s m args below meth c H locs 0 0 (vx_MQ below (va_Qi post (Sy G) (SA G)) (XQ G px) args s 1 sl (SA G)) (F0 m pc ls rest) := by
  obtain ⟨hx, hb, hml, hown, hg, hK, hN, hi⟩ := id C
  refine vx_throwS (names := nAI) (A := SA G) hx hb hl hown (by decide) (by decide) (hg _ q_670) (hg _ w_14) hstr (at_w at_ai bt_ai hg hX) (fun w hw => ?_) hZ.1 hZ.2 hS (hsize.trans hml.symm) d0 d3 d4 d6 d9 (fun x hx => (ht x hx).elim) (by show 3 + 3 < _; omega) (by show _ + (13 * (3 + 1) + 43) ≤ _; omega) (by omega) (by omega) hlocks (fun t hA hz hq => ?_) hS.2.2 (by omega) (by omega)
  · rcases List.mem_cons.mp hw with h | h
    · rw [h]; rfl
    · rcases List.mem_cons.mp h with h | h
      · rw [h]; rfl
      · exact List.all_eq_true.mp ot_ai w h
  · refine ⟨(eAI, T), hp, ⟨rfl, hP.kept (fun k q hk => hq _ (vx_lt hP hk))⟩, Nat.le_trans hS.1 hz, fun q h1 h2 => ?_⟩
    rw [hq q (Nat.lt_of_lt_of_le h1 hS.1)]
    exact hS.2.1 q h1 h2
theorem sz_ar {post : Int32 → St → Prop} {px : String → St → Prop} {is a : Nat} {tx : String} (C : Cx p s m args c cc nL RX6 G) (hl : l.stackTraces = false) (hlocks : meth.locks = false) (hX : XW sa s) (hZ : ZW (SA G) s s.heap) (hstr : vk_R RX6 is tx a s) (ht : ∀ x ∈ c.exceptionTable.toList, False) (hP : va_P G.1 sc_cl (wd G T) H) (hS : va_S (SA G) s.heap H locs) (hp : px eAR T) (hsize : ls.size = nL) (d0 : decode cc pc = .ok (.new 235, 3)) (d3 : decode cc (pc + 3) = .ok (.dup, 1)) (d4 : decode cc (pc + 4) = .ok (.ldc is, 2)) (d6 : decode cc (pc + 6) = .ok (.invokespecial 239, 3)) (d9 : decode cc (pc + 9) = .ok (.athrow, 1)) (hf : 6 < R.frames) (hlo : (rest.map fun v => v.category).sum + 95 ≤ R.locals) (hc : 1 ≤ R.cells) (hs : 6 ≤ R.slots) (hsl : 6 ≤ sl) : W p l e R s m args below meth c H locs 0 0 (vx_MQ below (va_Qi post (Sy G) (SA G)) (XQ G px) args s 1 sl (SA G)) (F0 m pc ls rest) := by
  obtain ⟨hx, hb, hml, hown, hg, hK, hN, hi⟩ := id C
  refine vx_throwS (names := nAR) (A := SA G) hx hb hl hown (by decide) (by decide) (hg _ q_734) (hg _ w_19) hstr (at_w at_ar bt_ar hg hX) (fun w hw => ?_) hZ.1 hZ.2 hS (hsize.trans hml.symm) d0 d3 d4 d6 d9 (fun x hx => (ht x hx).elim) (by show 2 + 3 < _; omega) (by show _ + (13 * (2 + 1) + 43) ≤ _; omega) (by omega) (by omega) hlocks (fun t hA hz hq => ?_) hS.2.2 (by omega) (by omega)
  · rcases List.mem_cons.mp hw with h | h
    · rw [h]; rfl
    · rcases List.mem_cons.mp h with h | h
      · rw [h]; rfl
      · exact List.all_eq_true.mp ot_ar w h
  · refine ⟨(eAR, T), hp, ⟨rfl, hP.kept (fun k q hk => hq _ (vx_lt hP hk))⟩, Nat.le_trans hS.1 hz, fun q h1 h2 => ?_⟩
    rw [hq q (Nat.lt_of_lt_of_le h1 hS.1)]
    exact hS.2.1 q h1 h2
end SZR
