/-! THE CLAIM OUT OF ONE WALK OF THE LAW'S BODY. Your part is whole_start (and what it stands on); all else here is the same for every law, but numbers. -/
def R_law : String := "SelfChangeLaw"
def lw_P (b : Addr) (xs : List Int32) (args : Array Value) (s : State) : Prop := args = #[.ref b] ∧ s.IntsAt b xs ∧ xs.length ≤ 2560 ∧ (Jvm.Cond.and given_1 narrow_1).before args s = true
def lw_Q (_ : Array Value) (s : State) (o : Outcome) (t : State) : Prop := o = .returned (some (.int 1)) ∧ Framed s o t [] 603072 7215210
def lw_Z (below : List Frame) (a : Array Value) (s : State) : State → Prop := fun t => ∃ o, t.status = .running ∧ Ended t below o ∧ lw_Q a s o t
/-- the law's own end, with 1 on the stack, nothing written that was there before, its room as the claim has it -/
theorem lw_ret {p : Program} {l : Launch} {e : Env} {s : State} {m : MethodId} {below : List Frame} {meth : Method} {c : Code} {b : Nat} (hx : p.tables.exec = Jvm.exec) (hb : c.code = code) (hr : meth.sig.returnType = ret) (hlocks : meth.locks = false) {pc : Nat} {H : Heap} {ls : Array Slot} (hdg : decode code pc = .ok (.ireturn, 1)) : W p l e room_1 s m #[Value.ref b] below meth c H [] 603072 7215210 (lw_Z below #[Value.ref b] s) (F0 m pc ls [.int 1]) := by
  intro T hT X
  obtain ⟨fs, hret, hrun, hended, hW, hframe⟩ := X.leave (v := some (.int 1)) (hlocks := hlocks) (fun h => by rw [hr] at h; cases h)
  have hmeth' : T.vm.method? m = some meth := X.method'
  refine ⟨T.setFrames fs, ?_, .returned (some (.int 1)), hrun, hended, rfl, ⟨_, rfl⟩, hW, hframe⟩
  jvm_step X.here [X.here.top, hx, hb, hdg, hmeth', hr, ret, narrow_b1]
  (try refine ⟨rfl, ?_⟩); (try refine ⟨rfl, ?_⟩)
  first | (intro acts; rw [hret _ acts rfl rfl rfl]) | rw [hret _ _ rfl rfl rfl]
  exact Steps.refl _
/-- what holds at the law's entry: the machine, the code, the tables' words (any of lw_tbl by 'hts w (by decide +kernel)'), the script of L ints xs at the cell b, what the Statement gives of the start (any of its parts by flat_of_before) -/
def lw_At (p : Program) (s : State) (m : MethodId) (meth : Method) (c : Code) (b L : Nat) (xs : Nat → Int32) : Prop :=
  p.tables.exec = Jvm.exec ∧ c.code = code ∧ meth.sig.returnType = ret ∧ c.maxLocals = 7 ∧ s.vm.findClass R_law = some m.cls ∧ (∀ w ∈ lw_tbl, w.before #[Value.ref b] s = true) ∧ va_X b L xs s s.heap ∧ b < s.heap.size ∧ meth.locks = false ∧ (Jvm.Cond.and given_1 narrow_1).before #[Value.ref b] s = true
theorem sw_out {v : Int32} (h : ∀ q : Nat, q < 18 → v ≠ nI q) : v.toInt < 0 ∨ 17 < v.toInt := by
  by_cases h0 : v < 0
  · left; rw [Int32.lt_iff_toInt_lt] at h0; exact h0
  · obtain ⟨j, hj, rfl⟩ := nI_of h0
    right
    rw [nI_toInt hj]
    rcases Nat.lt_or_ge j 18 with q | q
    · exact absurd rfl (h j q)
    · omega
set_option maxRecDepth 100000 in
set_option maxHeartbeats 4000000 in
/-- one turn from the switch on -/
theorem law_turn {p : Program} {l : Launch} {e : Env} {s : State} {m : MethodId} {below : List Frame} {meth : Method} {c : Code} {H : Heap} {locs : List Loc} {cells slots : Nat} {Q : State → Prop} {b L : Nat} {xs : Nat → Int32} {G : Gm} {sa : Nat × Nat × Nat × Nat} {ls : Array Slot} {x v : Int32} {T : St} {i : Nat} (htr : l.stackTraces = false) (hi5 : i ≤ 511) (h : LC p s m meth c b L xs G sa) (hR : Rel i T T) (hP : va_P G.1 sc_cl (wd G T) H) (hS : va_S (AB G) s.heap H locs) (hl : lv_has ls 7 (lvs b G x)) (hin : ∀ k : Int32, k ∈ ([1, 2, 3, 4] : List Int32) → vp_in (x + k) L) (hc1 : cells + 1 ≤ 603072) (hs1 : slots + 8 ≤ 7215210)
    (kk : ∀ (T : St) (H : Heap) (locs : List Loc) (ls : Array Slot), Rel (i + 1) T T → va_P G.1 sc_cl (wd G T) H → va_S (AB G) s.heap H locs → lv_has ls 7 (lvs b G x) → W p l e room_1 s m #[Value.ref b] below meth c H locs (cells + 1) (slots + 8) Q (F0 m 771 ls [])) : W p l e room_1 s m #[Value.ref b] below meth c H locs cells slots Q (F0 m 39 ls [.int v]) := by
    obtain ⟨hx, hb, -⟩ := id h.1
    by_cases e0 : v = 0
    · exact lv_tableIn (off := 85) (tgt := 124) hx hb dL_law_39 (by rw [e0]; decide) (by rw [e0]; decide) (by rw [e0]; decide) (by decide) (lc_put h hR hP hS hl hin hc1 hs1 kk)
    by_cases e1 : v = 1
    · exact lv_tableIn (off := 166) (tgt := 205) hx hb dL_law_39 (by rw [e1]; decide) (by rw [e1]; decide) (by rw [e1]; decide) (by decide) (lc_write h hR hP hS hl hin hc1 hs1 kk)
    by_cases e2 : v = 2
    · exact lv_tableIn (off := 203) (tgt := 242) hx hb dL_law_39 (by rw [e2]; decide) (by rw [e2]; decide) (by rw [e2]; decide) (by decide) (lc_read htr (by omega) h hR hP hS hl hin hc1 hs1 kk)
    by_cases e3 : v = 3
    · exact lv_tableIn (off := 259) (tgt := 298) hx hb dL_law_39 (by rw [e3]; decide) (by rw [e3]; decide) (by rw [e3]; decide) (by decide) (lc_routine h hR hP hS hl hin hc1 hs1 kk)
    by_cases e4 : v = 4
    · exact lv_tableIn (off := 284) (tgt := 323) hx hb dL_law_39 (by rw [e4]; decide) (by rw [e4]; decide) (by rw [e4]; decide) (by decide) (lc_make h hR hP hS hl hin hc1 hs1 kk)
    by_cases e5 : v = 5
    · exact lv_tableIn (off := 297) (tgt := 336) hx hb dL_law_39 (by rw [e5]; decide) (by rw [e5]; decide) (by rw [e5]; decide) (by decide) (lc_member h hR hP hS hl hin hc1 hs1 kk)
    by_cases e6 : v = 6
    · exact lv_tableIn (off := 334) (tgt := 373) hx hb dL_law_39 (by rw [e6]; decide) (by rw [e6]; decide) (by rw [e6]; decide) (by decide) (lc_head htr (by omega) h hR hP hS hl hin hc1 hs1 kk)
    by_cases e7 : v = 7
    · exact lv_tableIn (off := 402) (tgt := 441) hx hb dL_law_39 (by rw [e7]; decide) (by rw [e7]; decide) (by rw [e7]; decide) (by decide) (lc_makeable h hR hP hS hl hin hc1 hs1 kk)
    by_cases e8 : v = 8
    · exact lv_tableIn (off := 427) (tgt := 466) hx hb dL_law_39 (by rw [e8]; decide) (by rw [e8]; decide) (by rw [e8]; decide) (by decide) (lc_run h hR hP hS hl hin hc1 hs1 kk)
    by_cases e9 : v = 9
    · exact lv_tableIn (off := 488) (tgt := 527) hx hb dL_law_39 (by rw [e9]; decide) (by rw [e9]; decide) (by rw [e9]; decide) (by decide) (lc_ran h hR hP hS hl hin hc1 hs1 kk)
    by_cases e10 : v = 10
    · exact lv_tableIn (off := 513) (tgt := 552) hx hb dL_law_39 (by rw [e10]; decide) (by rw [e10]; decide) (by rw [e10]; decide) (by decide) (lc_alike h hR hP hS hl hin hc1 hs1 kk)
    by_cases e11 : v = 11
    · exact lv_tableIn (off := 574) (tgt := 613) hx hb dL_law_39 (by rw [e11]; decide) (by rw [e11]; decide) (by rw [e11]; decide) (by decide) (lc_page h hR hP hS hl hin hc1 hs1 kk)
    by_cases e12 : v = 12
    · exact lv_tableIn (off := 599) (tgt := 638) hx hb dL_law_39 (by rw [e12]; decide) (by rw [e12]; decide) (by rw [e12]; decide) (by decide) (lc_snapshot h hR hP hS hl hin hc1 hs1 kk)
    by_cases e13 : v = 13
    · exact lv_tableIn (off := 612) (tgt := 651) hx hb dL_law_39 (by rw [e13]; decide) (by rw [e13]; decide) (by rw [e13]; decide) (by decide) (lc_restore h hR hP hS hl hin hc1 hs1 kk)
    by_cases e14 : v = 14
    · exact lv_tableIn (off := 637) (tgt := 676) hx hb dL_law_39 (by rw [e14]; decide) (by rw [e14]; decide) (by rw [e14]; decide) (by decide) (lc_undo h hR hP hS hl hin hc1 hs1 kk)
    by_cases e15 : v = 15
    · exact lv_tableIn (off := 650) (tgt := 689) hx hb dL_law_39 (by rw [e15]; decide) (by rw [e15]; decide) (by rw [e15]; decide) (by decide) (lc_share htr (by omega) h hR hP hS hl hin hc1 hs1 kk)
    by_cases e16 : v = 16
    · exact lv_tableIn (off := 694) (tgt := 733) hx hb dL_law_39 (by rw [e16]; decide) (by rw [e16]; decide) (by rw [e16]; decide) (by decide) (lc_count h hR hP hS hl hin hc1 hs1 kk)
    by_cases e17 : v = 17
    · exact lv_tableIn (off := 719) (tgt := 758) hx hb dL_law_39 (by rw [e17]; decide) (by rw [e17]; decide) (by rw [e17]; decide) (by decide) (lc_clear h hR hP hS hl hin hc1 hs1 kk)
    refine lv_tableOut (tgt := 771) hx hb dL_law_39 (sw_out (fun q hq => ?_)) (by decide) (W.widen (k := cells + 1) (n := slots + 8) (by omega) (by omega) (kk _ _ _ _ (hR.same (fun _ _ _ => rfl) (fun _ _ => rfl) rfl) hP hS hl))
    rcases (show q = 0 ∨ q = 1 ∨ q = 2 ∨ q = 3 ∨ q = 4 ∨ q = 5 ∨ q = 6 ∨ q = 7 ∨ q = 8 ∨ q = 9 ∨ q = 10 ∨ q = 11 ∨ q = 12 ∨ q = 13 ∨ q = 14 ∨ q = 15 ∨ q = 16 ∨ q = 17 by omega) with rfl | rfl | rfl | rfl | rfl | rfl | rfl | rfl | rfl | rfl | rfl | rfl | rfl | rfl | rfl | rfl | rfl | rfl
    · exact e0
    · exact e1
    · exact e2
    · exact e3
    · exact e4
    · exact e5
    · exact e6
    · exact e7
    · exact e8
    · exact e9
    · exact e10
    · exact e11
    · exact e12
    · exact e13
    · exact e14
    · exact e15
    · exact e16
    · exact e17
set_option maxRecDepth 100000 in
set_option maxHeartbeats 4000000 in
/-- THE LAW'S LOOP -/
theorem law_loop {p : Program} {l : Launch} {e : Env} {s : State} {m : MethodId} {below : List Frame} {meth : Method} {c : Code} {b L : Nat} {xs : Nat → Int32} {G : Gm} {sa : Nat × Nat × Nat × Nat} (htr : l.stackTraces = false) (h : LC p s m meth c b L xs G sa) (hL : L ≤ 2560) :
    ∀ (n j : Nat), 5 * j ≤ L → L + 1 ≤ 5 * j + n → ∀ (T : St) (H : Heap) (locs : List Loc) (ls : Array Slot), Rel j T T → va_P G.1 sc_cl (wd G T) H → va_S (AB G) s.heap H locs → lv_has ls 7 (lvs b G (nI (5 * j))) → W p l e room_1 s m #[Value.ref b] below meth c H locs (152 + j) (26000 + 8 * j) (lw_Z below #[Value.ref b] s) (F0 m 23 ls []) := by
  have hnb := h.nb
  obtain ⟨C, hA, hG0, hXs, hbl, hr, hlocks, hXW, hZ⟩ := id h
  obtain ⟨hx, hb, hml, hown, hg, hK, hN, hi⟩ := id C
  intro n
  induction n with
  | zero => intro j h1 h2; exact absurd h2 (by omega)
  | succ n ih =>
    intro j hj hn T H locs ls hR hP hS hl
    refine lv_iload hx hb dL_law_23 (lv_at hl 4 rfl) ?_
    refine lv_aload_n hx hb dL_law_25 rfl (lv_at hl 0 rfl) ?_
    refine va_slen hx hb hXs hbl hnb hS dL_law_26 ?_
    refine lv_iconst (v := 5) hx hb dL_law_27 (by decide) ?_
    refine lv_isub hx hb dL_law_28 ?_
    refine lv_icmp_gt (tgt := 777) hx hb dL_law_29 (by decide) (fun hc => ?_) (fun hc => ?_)
    · refine lv_iconst (v := 1) hx hb dL_law_777 (by decide) ?_
      refine va_forget (fun q hq => ?_) ?_
      · have := hS.2.2 q hq
        rw [← hG0]; exact this
      refine W.widen (k := 603072) (n := 7215210) (by omega) (by omega) ?_
      exact lw_ret hx hb hr hlocks dL_law_778
    · have h5 : 5 * j + 5 ≤ L := by
        rw [Int32.lt_iff_toInt_lt, nI_toInt (by omega), show Int32.ofNat L - 5 = nI L - nI 5 from rfl, pk_sub_toInt (by omega) (by omega)] at hc
        omega
      have vi : ∀ k : Nat, k ≤ 4 → vp_in (nI (5 * j) + nI k) L := fun k hk => by rw [nI_add]; exact vp_in_nI (by omega) (by omega)
      refine lv_aload_n hx hb dL_law_32 rfl (lv_at hl 0 rfl) ?_
      refine lv_iload hx hb dL_law_33 (lv_at hl 4 rfl) ?_
      refine va_sld hx hb hXs hbl hnb hS (vp_in_nI (by omega) (by omega)) dL_law_35 ?_
      refine lv_bipush (v := 31) hx hb dL_law_36 (by decide) ?_
      refine lv_iand hx hb dL_law_38 ?_
      refine law_turn htr (by omega) h hR hP hS hl (fun k hk => ?_) (by omega) (by omega) (fun T H locs ls hR hP hS hl => ?_)
      · simp only [List.mem_cons, List.not_mem_nil, or_false] at hk
        rcases hk with rfl | rfl | rfl | rfl
        · exact vi 1 (by omega)
        · exact vi 2 (by omega)
        · exact vi 3 (by omega)
        · exact vi 4 (by omega)
      · refine lv_iinc (v := nI (5 * (j + 1))) (lv' := [(4, .int (nI (5 * (j + 1)))), (0, .ref b), (1, .ref (G.2.2 0)), (2, .ref (G.2.2 130)), (3, .ref (G.2.2 151))]) hx hb dL_law_771 hl (k := 4) rfl ?_ (by decide) rfl (fun ls hl => ?_)
        · show nI (5 * j) + nI 5 = _
          rw [nI_add]; rfl
        refine lv_goto (tgt := 23) hx hb dL_law_774 (by decide) ?_
        exact ih (j + 1) (by omega) (by omega) T H locs ls hR hP hS (lv_sub hl [1, 2, 3, 4, 0] rfl)
