/-! the law's walk: pieces -/
theorem q_579 : Cond.codeWith yL_read cL_read 4 (some .int) [(0, 9, 12, 13)] ∈ gw := gw_t 579 (by decide +kernel) (by decide +kernel)
theorem q_675 : Cond.codeWith yL_head cL_head 5 (some .int) [(0, 10, 13, 19), (0, 10, 17, 13)] ∈ gw := gw_t 675 (by decide +kernel) (by decide +kernel)
theorem q_715 : Cond.codeWith yL_share cL_share 3 (some .int) [(0, 8, 11, 25)] ∈ gw := gw_t 715 (by decide +kernel) (by decide +kernel)
abbrev lvs (b : Nat) (G : Gm) (x : Int32) : List (Nat × Value) := [(0, .ref b), (1, .ref (G.2.2 0)), (2, .ref (G.2.2 130)), (3, .ref (G.2.2 151)), (4, .int x)]
/-- what the law's walk stands on -/
def LC (p : Program) (s : State) (m : MethodId) (meth : Method) (c : Code) (b L : Nat) (xs : Nat → Int32) (G : Gm) (sa : Nat × Nat × Nat × Nat) : Prop :=
  Cx p s m #[Value.ref b] c cL_law 7 RL G ∧ Ad G ∧ G.2.2 0 = s.heap.size ∧ va_X b L xs s s.heap ∧ b < s.heap.size ∧ meth.sig.returnType = ret ∧ meth.locks = false ∧ XW sa s ∧ ZW (AB G) s s.heap
theorem sa_ab {G : Gm} (hA : Ad G) : ∀ q, SA G q → AB G q := fun q ⟨i, _, e⟩ => by
  show G.2.2 0 ≤ q
  rw [e, hA i]; omega
section LX
variable {p : Program} {l : Launch} {e : Env} {s : State} {m : MethodId} {below : List Frame} {meth : Method} {c : Code} {H : Heap} {locs : List Loc} {cells slots : Nat} {Q : State → Prop}
variable {b L : Nat} {xs : Nat → Int32} {G : Gm} {sa : Nat × Nat × Nat × Nat} {ls : Array Slot} {x : Int32} {rest : List Value} {pc : Nat} {T : St}
theorem LC.nb (h : LC p s m meth c b L xs G sa) : ¬ AB G b := by
  obtain ⟨C, hA, hG0, hXs, hbl, hr, hlocks, hXW, hZ⟩ := id h
  show ¬ G.2.2 0 ≤ b
  rw [hG0]; omega
/-- an argument out of the script -/
theorem lx_arg (h : LC p s m meth c b L xs G sa) (hS : va_S (AB G) s.heap H locs) (hl : lv_has ls 7 (lvs b G x)) {n : Int} {v : Int32} (hin : vp_in (x + v) L) (d0 : decode cL_law pc = .ok (.aload_n 0, 1)) (d1 : decode cL_law (pc + 1) = .ok (.iload 4, 2)) (d2 : decode cL_law (pc + 3) = .ok (.iconst n, 1)) (hn : Int32.ofInt n = v) (d3 : decode cL_law (pc + 4) = .ok (.iadd, 1)) (d4 : decode cL_law (pc + 5) = .ok (.iaload, 1))
    (kk : W p l e room_1 s m #[Value.ref b] below meth c H locs cells slots Q (F0 m (pc + 6) ls (.int (xs (x + v).toNatClampNeg) :: rest))) : W p l e room_1 s m #[Value.ref b] below meth c H locs cells slots Q (F0 m pc ls rest) := by
  have hnb := h.nb
  obtain ⟨C, hA, hG0, hXs, hbl, hr, hlocks, hXW, hZ⟩ := id h
  obtain ⟨hx, hb, -⟩ := id C
  refine lv_aload_n hx hb d0 rfl (lv_at hl 0 rfl) ?_
  refine lv_iload hx hb d1 (lv_at hl 4 rfl) ?_
  refine lv_iconst hx hb d2 hn ?_
  refine lv_iadd hx hb d3 ?_
  exact va_sld hx hb hXs hbl hnb hS hin d4 kk
/-- a call of the law's own three -/
theorem lx_run (h : LC p s m meth c b L xs G sa) (htr : l.stackTraces = false) (hP : va_P G.1 sc_cl (wd G T) H) (hS : va_S (AB G) s.heap H locs) {y : MethodName} {yc : ByteArray} {yn fr sl lo n ix : Nat} {hh : List (Nat × Nat × Nat × Nat)} {As st0 : List Value} {post : Int32 → St → Prop} (hM : Ml l y yc yn hh fr sl lo G sa As T post) (h1 : Cond.codeWith y yc yn (some .int) hh ∈ gw) (h2 : Cond.methodLink RL ix y ∈ gw) (h3 : Cond.static y ∈ gw) (hy1 : y.cls = RL) (hy : y.cls ≠ "java/lang/invoke/MethodHandle" ∧ y.cls ≠ "java/lang/invoke/VarHandle") (hd : (parseMethodDescriptor y.desc).map (fun d => d.parameters.length) = some n)
    (hn : As.length = n) (hsize : ls.size = 7) (hst : st0 = As.reverse) (hRm : fr + 1 ≤ room_1.frames ∧ 8 + (yn + 11) + lo ≤ room_1.locals) (hdg : decode cL_law pc = .ok (.invokestatic ix, 3)) (hc : cells + 1 ≤ 603072) (hs : slots + sl ≤ 7215210)
    (kk : ∀ (r : Int32) (T' : St) (H : Heap) (locs : List Loc), post r T' → va_P G.1 sc_cl (wd G T') H → va_S (AB G) s.heap H locs → W p l e room_1 s m #[Value.ref b] below meth c H locs (cells + 1) (slots + sl) Q (F0 m (pc + 3) ls [.int r])) : W p l e room_1 s m #[Value.ref b] below meth c H locs cells slots Q (F0 m pc ls st0) := by
  obtain ⟨C, hA, hG0, hXs, hbl, hr, hlocks, hXW, hZ⟩ := id h
  obtain ⟨hx, hb, hml, hown, hg, hK, hN, hi⟩ := id C
  have hgood : GoodIn gw (va_wsS RL ix y (.codeWith y yc yn (some .int) hh :: gw)) := fun w hw => by
    have key : w ∈ gw := by
      unfold va_wsS at hw
      rcases List.mem_append.mp hw with h | h
      · simp only [List.mem_cons, List.not_mem_nil, or_false] at h
        rcases h with rfl | rfl | rfl
        · exact h2
        · exact h3
        · rw [hy1]; exact w_0
      · rcases List.mem_cons.mp h with h | h
        · rw [h]; exact h1
        · exact h
    exact ⟨key, gw_good key⟩
  have cw : vx_CSW room_1 s #[Value.ref b] RL ix y yc yn (some .int) hh (.codeWith y yc yn (some .int) hh :: gw) { frames := fr, cells := 1, slots := sl, locals := lo } 1 sl n := vx_cwSW n hg hgood rfl rfl rfl ⟨hy.1, hy.2, hd⟩ hRm
  refine va_calli (vx_runSW (Ts := gw) (rest := []) ⟨hx, hb, hml, hown, hg⟩ hM cw ⟨SZ.blind, fun U hU hW => ⟨rfl, Sy.to hP hK hN hU hW, XW.warm hW hXW, by rw [hU]; exact ((hZ.kept hS.2.1).narrow (sa_ab hA)).moved hW.alike⟩⟩ rfl hn hsize (by show st0 = _; rw [hst, List.append_nil]) (lv_room (Nat.le_of_ble_eq_true rfl)) hdg ⟨hc, hs⟩) hS (fun q _ h => sa_ab hA q h) (sa_ab hA) (fun r u t H1 locs1 ht _ hp hB _ _ hS1 => kk r u H1 locs1 hp (by rw [← ht]; exact hB.1) hS1)
end LX
