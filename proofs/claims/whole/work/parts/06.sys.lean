/-! THE SYSTEM'S CELLS BY NUMBERS. Cell o of 152 (in the order in which they are made) lies at the address ad o; what it holds is told by a state T: ints by (cell, place), longs by (cell, place). The references are fixed, but a routine's two. -/
abbrev St : Type := (Nat → Nat → Int32) × (Nat → Nat → Int64)
abbrev Gm : Type := va_G × (Nat → ClassId) × (Nat → Nat)
def ko (o : Nat) : Nat :=
  if o < 27 then [6, 1, 10, 10, 4, 10, 12, 2, 13, 10, 10, 10, 10, 10, 10, 10, 10, 10, 13, 10, 10, 10, 10, 3, 10, 10, 10].getD o 99
  else if o < 117 then [5, 3, 10, 10, 10, 3, 10, 10, 10].getD ((o - 27) % 9) 99
  else [0, 10, 10, 0, 4, 10, 10, 10, 0, 4, 10, 10, 10, 7, 10, 10, 11, 11, 11, 10, 10, 11, 11, 11, 10, 10, 10, 10, 10, 11, 11, 10, 10, 10, 14].getD (o - 117) 99
def len (o : Nat) : Nat :=
  if o < 27 then [0, 0, 256, 16, 0, 256, 10, 0, 9, 256, 256, 256, 256, 256, 256, 256, 256, 256, 4, 256, 256, 256, 256, 0, 24, 24, 24].getD o 0
  else if o < 117 then [0, 0, 24, 24, 24, 0, 24, 24, 24].getD ((o - 27) % 9) 0
  else [0, 6, 6, 0, 0, 256, 6, 6, 0, 0, 256, 6, 6, 0, 256, 10, 10, 2560, 2560, 2560, 10, 10, 2560, 2560, 2560, 1024, 2048, 256, 9, 256, 256, 256, 6, 6, 1].getD (o - 117) 0
def fk (c k : Nat) : Nat :=
  [[1, 1, 1, 1], [1, 1], [1], [1, 1, 1], [1, 1], [1, 1], [1, 1, 1, 1, 1, 1, 1, 1, 1],
   [0, 1, 0, 1, 1, 1, 1, 1, 1, 1, 1, 1, 1, 0, 0, 0, 0, 2, 2, 0, 1, 0, 1, 1, 1, 1, 1, 1, 1, 1]].getD c [] |>.getD k 0
def nf (c : Nat) : Nat := [16, 2, 3, 4, 6, 5, 16, 40].getD c 0
def mo (o : Nat) : Nat := if o = 117 then 4 else o + 1
def wi (o : Nat) : Nat := if o = 117 then 118 else o + 3
def mb (o : Nat) (e : Int32) : Nat := if e = 0 then o + 1 else o + 5
def rc (c o k : Nat) (e : Int32) : Nat :=
  if c = 0 then [mo o, 6, wi o, wi o + 1].getD k 0 else if c = 1 then 2 + k else if c = 2 then 8 else if c = 3 then o + 1 + k else if c = 4 then (if k = 0 then o + 1 else 1)
  else if c = 5 then mb o e else if c = 6 then [1, 4, 6, 7, 18, 117, 120, 125, 23].getD k 0
  else if c = 7 then [0, 131, 0, 132, 133, 134, 135, 136, 137, 138, 139, 140, 141, 0, 0, 0, 0, 0, 0, 0, 142, 0, 143, 144, 145, 146, 147, 148, 149, 150].getD k 0
  else if c = 12 then 27 + 9 * k else o + 1 + k
def fv (G : Gm) (T : St) (c o k : Nat) : Value := if fk c k = 1 then .ref (G.2.2 (rc c o k (T.1 o k))) else if fk c k = 2 then .long (T.2 o k) else .int (T.1 o k)
def pi (G : Gm) (T : St) (c o : Nat) : va_E :=
  if c < 8 then .inr (c, (List.range (nf c)).map (fv G T c o)) else if c = 10 then .inl (G.2.1 0, len o, .inl (T.1 o)) else if c = 11 then .inl (G.2.1 1, len o, .inl (T.1 o))
  else if c = 12 then .inl (G.2.1 2, len o, .inr (.inr (.inr (.inr (fun j => some (G.2.2 (rc 12 o j 0))))))) else if c = 13 then .inl (G.2.1 3, len o, .inr (.inr (.inr (.inr (fun j => some (G.2.2 (rc 13 o j 0)))))))
  else .inl (G.2.1 4, len o, .inr (.inl (T.2 o)))
def pic (G : Gm) (T : St) (o : Nat) : va_E := pi G T (ko o) o
def wd (G : Gm) (T : St) : va_W := (List.range 152).map (fun o => (G.2.2 o, pic G T o))
def sa (T : St) (o : Nat) (f : Nat → Int32) : St := (fun i => if i = o then f else T.1 i, T.2)
def sv (T : St) (o k : Nat) (v : Int32) : St := sa T o (upd (T.1 o) k v)
def sl (T : St) (o k : Nat) (v : Int64) : St := (T.1, fun i => if i = o then vp_updL (T.2 o) k v else T.2 i)
abbrev sc_cl : List vw_C := [(RX0, TX0, 16), (RX1, TX1, 2), (RX2, TX2, 3), (RX3, TX3, 4), (RX4, TX4, 6), (RX5, TX5, 5), (RX6, TX6, 16), (RX7, TX7, 40)]
abbrev tys (G : Gm) : List (ClassId × FieldType) := [(G.2.1 0, .int), (G.2.1 1, .boolean), (G.2.1 2, .object "SelfChange$Routine"), (G.2.1 3, .array .int), (G.2.1 4, .long)]
def nws : List (String × Nat × MethodName × String) := [(RX1, 27, yX6_lengthOf, RX6), (RX3, 44, yX6_isKind, RX6), (RX3, 47, yX6_lengthOf, RX6), (RX3, 51, yX6_canGoElsewhere, RX6), (RX3, 57, yX6_hasOperand, RX6), (RX0, 113, yX6_isKind, RX6), (RX0, 117, yX6_lengthOf, RX6), (RX0, 126, yX6_canGoElsewhere, RX6)]
def NW (U : State) : Prop := ∀ w ∈ nws, va_Nw (.methodLinkNest w.1 w.2.1 w.2.2.1 w.2.2.2) U
def SA (G : Gm) (q : Nat) : Prop := ∃ i, i < 152 ∧ q = G.2.2 i
def Inj (G : Gm) : Prop := ∀ i j, i < 152 → j < 152 → G.2.2 i = G.2.2 j → i = j
def Sy (G : Gm) (T : St) (U : State) : Prop := va_P G.1 sc_cl (wd G T) U.heap ∧ va_K G.1 sc_cl (tys G) U ∧ NW U
theorem NW.warm {s U : State} (hW : s.WarmedH U.vm) (h : NW s) : NW U := fun w hw => va_Nw.warmM hW (h w hw)
theorem NW.same {s U : State} (hW : s.vm = U.vm) (h : NW s) : NW U := fun w hw => va_Nw.same rfl hW (h w hw)
theorem Sy.to {G : Gm} {T : St} {s t : State} {H : Heap} (hP : va_P G.1 sc_cl (wd G T) H) (hK : va_K G.1 sc_cl (tys G) s) (hN : NW s) (ht : t.heap = H) (hW : s.WarmedH t.vm) : Sy G T t := ⟨by rw [ht]; exact hP, va_K.moved hW.alike hK, hN.warm hW⟩
theorem Sy.blind {G : Gm} {T : St} {av : List Value} : FrameBlind (va_Pc av (Sy G T)) := fun a U g mk h => ⟨h.1, h.2.1, va_K.moved (u := U) (U := U.calling g mk a) (Vm.Alike.refl U.vm) h.2.2.1, NW.same (s := U) (U := U.calling g mk a) rfl h.2.2.2⟩
theorem ko_out {o : Nat} (h : 152 ≤ o) : ko o = 99 := by
  unfold ko
  rw [if_neg (by omega), if_neg (by omega)]
  rw [List.getD_eq_getElem?_getD, List.getElem?_eq_none (by simp; omega)]
  rfl
theorem ko_lt {o c : Nat} (h : ko o = c) (hc : c ≠ 99) : o < 152 := by
  rcases Nat.lt_or_ge o 152 with q | q
  · exact q
  · exact absurd ((ko_out q).symm.trans h).symm hc
theorem wd_at (G : Gm) (T : St) {o c : Nat} (h : ko o = c) (hc : c ≠ 99) : (wd G T)[o]? = some (G.2.2 o, pi G T c o) := by
  have hl := ko_lt h hc
  simp [wd, hl, pic, h]
theorem wd_set (G : Gm) (T T' : St) {o c : Nat} {e : va_E} (h : ko o = c) (hc : c ≠ 99) (he : pi G T' c o = e) (hn : ∀ i, i ≠ o → pic G T' i = pic G T i) : (wd G T).set o (G.2.2 o, e) = wd G T' := by
  have hl := ko_lt h hc
  apply List.ext_getElem?
  intro k
  by_cases hk : k = o
  · subst hk
    rw [List.getElem?_set_self (by simp [wd, hl]), wd_at G T' h hc, he]
  · rw [List.getElem?_set_ne (Ne.symm hk)]
    unfold wd
    rw [List.getElem?_map, List.getElem?_map]
    cases hr : (List.range 152)[k]? with
    | none => rfl
    | some j =>
      have : j = k := by
        obtain ⟨h1, h2⟩ := List.getElem?_eq_some_iff.mp hr
        simpa using h2.symm
      subst this
      simp [hn j hk]
theorem fv_eq {G : Gm} {T T' : St} {c i : Nat} (h1 : T'.1 i = T.1 i) (h2 : T'.2 i = T.2 i) : fv G T' c i = fv G T c i := by
  funext k
  simp only [fv, h1, h2]
theorem pic_eq {G : Gm} {T T' : St} {i : Nat} (h1 : T'.1 i = T.1 i) (h2 : T'.2 i = T.2 i) : pic G T' i = pic G T i := by
  simp only [pic, pi, fv_eq h1 h2, h1, h2]
theorem pic_sa {G : Gm} {T : St} {o i : Nat} {f : Nat → Int32} (h : i ≠ o) : pic G (sa T o f) i = pic G T i := pic_eq (if_neg h) rfl
theorem pic_sl {G : Gm} {T : St} {o k i : Nat} {v : Int64} (h : i ≠ o) : pic G (sl T o k v) i = pic G T i := pic_eq rfl (if_neg h)
theorem rm_set {α : Type} {n k : Nat} {g g' : Nat → α} {x : α} (hx : g' k = x) (h : ∀ j, j ≠ k → g' j = g j) : ((List.range n).map g).set k x = (List.range n).map g' := by
  apply List.ext_getElem?
  intro j
  by_cases hj : j = k
  · subst hj
    by_cases hl : j < n
    · rw [List.getElem?_set_self (by simpa using hl)]; simp [hl, hx]
    · simp [hl]
  · rw [List.getElem?_set_ne (Ne.symm hj), List.getElem?_map, List.getElem?_map]
    cases hr : (List.range n)[j]? with
    | none => rfl
    | some i =>
      have : i = j := by
        obtain ⟨h1, h2⟩ := List.getElem?_eq_some_iff.mp hr
        simpa using h2.symm
      subst this
      simp [h i hj]
theorem pi_obj {G : Gm} {T : St} {c o : Nat} (h : c < 8) : pi G T c o = .inr (c, (List.range (nf c)).map (fv G T c o)) := if_pos h
theorem sv_at {T : St} {o k j : Nat} {v : Int32} : (sv T o k v).1 o j = if j = k then v else T.1 o j := by simp [sv, sa, upd]
theorem fv_ne {G : Gm} {T : St} {c o k j : Nat} {v : Int32} (h : j ≠ k) : fv G (sv T o k v) c o j = fv G T c o j := by simp [fv, sv_at, h]; simp [sv, sa]
theorem fv_nel {G : Gm} {T : St} {c o k j : Nat} {v : Int64} (h : j ≠ k) : fv G (sl T o k v) c o j = fv G T c o j := by simp [fv, sl, vp_updL, h]
theorem wd_D {G : Gm} (hi : Inj G) (T : St) : va_D (SA G) (wd G T) := by
  have key : ∀ (k : Nat) (q : Nat × va_E), (wd G T)[k]? = some q → k < 152 ∧ q.1 = G.2.2 k := by
    intro k q h
    unfold wd at h
    rw [List.getElem?_map] at h
    cases hr : (List.range 152)[k]? with
    | none => rw [hr] at h; cases h
    | some j =>
      rw [hr] at h
      obtain ⟨h1, h2⟩ := List.getElem?_eq_some_iff.mp hr
      have h3 : k = j := by simpa using h2
      subst h3
      cases h
      exact ⟨by simpa using h1, rfl⟩
  refine ⟨fun i j p q h1 h2 h3 => ?_, fun k q h => ?_⟩
  · obtain ⟨a1, a2⟩ := key i p h1
    obtain ⟨b1, b2⟩ := key j q h2
    exact hi i j a1 b1 (by rw [← a2, ← b2, h3])
  · obtain ⟨a1, a2⟩ := key k q h
    exact ⟨k, a1, a2⟩
theorem gw_ps {ws : List Cond} (ps : List Nat) (h : ws = ps.filterMap (fun i => tables_1[i]?)) (hg : ws.all goodWord = true) : ∀ w ∈ ws, w ∈ gw := fun w hw => by
  have h1 := List.all_eq_true.mp hg w hw
  rw [h] at hw
  obtain ⟨i, -, hi⟩ := List.mem_filterMap.mp hw
  exact gw_t i hi h1
theorem gx_0 : ∀ w ∈ u_ws RX0 TX0 16, w ∈ gw := gw_ps [188, 190, 192, 194, 196, 198, 200, 202, 204, 206, 208, 210, 212, 214, 216, 218] (by decide +kernel) (by decide +kernel)
theorem gx_1 : ∀ w ∈ u_ws RX1 TX1 2, w ∈ gw := gw_ps [40, 42] (by decide +kernel) (by decide +kernel)
theorem gx_2 : ∀ w ∈ u_ws RX2 TX2 3, w ∈ gw := gw_ps [93, 95, 97] (by decide +kernel) (by decide +kernel)
theorem gx_3 : ∀ w ∈ u_ws RX3 TX3 4, w ∈ gw := gw_ps [118, 120, 122, 124] (by decide +kernel) (by decide +kernel)
theorem gx_4 : ∀ w ∈ u_ws RX4 TX4 6, w ∈ gw := gw_ps [66, 68, 70, 72, 74, 76] (by decide +kernel) (by decide +kernel)
theorem gx_5 : ∀ w ∈ u_ws RX5 TX5 5, w ∈ gw := gw_ps [145, 147, 149, 151, 153] (by decide +kernel) (by decide +kernel)
theorem gx_6 : ∀ w ∈ u_ws RX6 TX6 16, w ∈ gw := gw_ps [237, 239, 241, 243, 245, 247, 249, 251, 253, 255, 257, 259, 261, 263, 265, 267] (by decide +kernel) (by decide +kernel)
theorem gx_7 : ∀ w ∈ u_ws RX7 TX7 40, w ∈ gw := gw_ps [783, 785, 787, 789, 791, 793, 795, 797, 799, 801, 803, 805, 807, 809, 811, 813, 815, 817, 819, 821, 823, 825, 827, 829, 831, 833, 835, 837, 839, 841, 843, 845, 847, 849, 851, 853, 855, 857, 859, 861] (by decide +kernel) (by decide +kernel)
theorem cl_in {c : Nat} {r : vw_C} (h : sc_cl[c]? = some r) : ∀ w ∈ u_ws r.1 r.2.1 r.2.2, w ∈ gw := by
  match c, h with
  | 0, h => cases h; exact gx_0
  | 1, h => cases h; exact gx_1
  | 2, h => cases h; exact gx_2
  | 3, h => cases h; exact gx_3
  | 4, h => cases h; exact gx_4
  | 5, h => cases h; exact gx_5
  | 6, h => cases h; exact gx_6
  | 7, h => cases h; exact gx_7
  | c + 8, h => simp [sc_cl] at h
def tyc (c : Nat) : Nat → FieldType := [tyX0, tyX1, tyX2, tyX3, tyX4, tyX5, tyX6, tyX7].getD c tyX0
theorem cl_ty {c : Nat} {r : vw_C} (h : sc_cl[c]? = some r) : ∀ k, k < r.2.2 → parseFieldDescriptor (r.2.1 k).2.2.1 = some (tyc c k) := by
  match c, h with
  | 0, h => cases h; exact tyX0_ok
  | 1, h => cases h; exact tyX1_ok
  | 2, h => cases h; exact tyX2_ok
  | 3, h => cases h; exact tyX3_ok
  | 4, h => cases h; exact tyX4_ok
  | 5, h => cases h; exact tyX5_ok
  | 6, h => cases h; exact tyX6_ok
  | 7, h => cases h; exact tyX7_ok
  | c + 8, h => simp [sc_cl] at h
theorem cl_nm {c : Nat} {r : vw_C} (h : sc_cl[c]? = some r) : ∀ a, a < r.2.2 → ∀ b, b < r.2.2 → a ≠ b → (r.2.1 a).2.1 ≠ (r.2.1 b).2.1 := by
  match c, h with
  | 0, h => cases h; exact nmX0
  | 1, h => cases h; exact nmX1
  | 2, h => cases h; exact nmX2
  | 3, h => cases h; exact nmX3
  | 4, h => cases h; exact nmX4
  | 5, h => cases h; exact nmX5
  | 6, h => cases h; exact nmX6
  | 7, h => cases h; exact nmX7
  | c + 8, h => simp [sc_cl] at h
theorem cl_nf {c : Nat} {r : vw_C} (h : sc_cl[c]? = some r) : c < 8 ∧ nf c = r.2.2 := by
  match c, h with
  | 0, h => cases h; exact ⟨by decide, rfl⟩
  | 1, h => cases h; exact ⟨by decide, rfl⟩
  | 2, h => cases h; exact ⟨by decide, rfl⟩
  | 3, h => cases h; exact ⟨by decide, rfl⟩
  | 4, h => cases h; exact ⟨by decide, rfl⟩
  | 5, h => cases h; exact ⟨by decide, rfl⟩
  | 6, h => cases h; exact ⟨by decide, rfl⟩
  | 7, h => cases h; exact ⟨by decide, rfl⟩
  | c + 8, h => simp [sc_cl] at h
/-- what a walk stands on -/
def Cx (p : Program) (s : State) (m : MethodId) (args : Array Value) (c : Code) (cc : ByteArray) (nL : Nat) (own : String) (G : Gm) : Prop :=
  p.tables.exec = Jvm.exec ∧ c.code = cc ∧ c.maxLocals = nL ∧ s.vm.findClass own = some m.cls ∧ (∀ w ∈ gw, w.before args s = true) ∧ va_K G.1 sc_cl (tys G) s ∧ NW s ∧ Inj G
section SY
variable {p : Program} {l : Launch} {e : Env} {R : Room} {s : State} {m : MethodId} {args : Array Value} {below : List Frame} {meth : Method} {c : Code} {H H0 : Heap} {locs : List Loc} {cells slots : Nat} {Q : State → Prop} {A : Nat → Prop}
variable {cc : ByteArray} {pc nL : Nat} {ls : Array Slot} {rest : List Value} {own : String} {G : Gm} {T : St}
/-- getfield: an int -/
theorem sy_geti (C : Cx p s m args c cc nL own G) (hP : va_P G.1 sc_cl (wd G T) H) {o ci : Nat} {r : vw_C} (ho : ko o = ci) (hc : sc_cl[ci]? = some r) (k : Nat) (hk : k < r.2.2) (hd : (r.2.1 k).1 = r.1) (hf : fk ci k = 0) {ix : Nat} (hl : Cond.fieldLink own ix r.1 (r.2.1 k).2.1 (r.2.1 k).2.2.1 ∈ gw) (hdg : decode cc pc = .ok (.getfield ix, 3))
    (kk : W p l e R s m args below meth c H locs cells slots Q (F0 m (pc + 3) ls (.int (T.1 o k) :: rest))) : W p l e R s m args below meth c H locs cells slots Q (F0 m pc ls (.ref (G.2.2 o) :: rest)) := by
  obtain ⟨hx, hb, -, hown, hg, hK, -, -⟩ := C
  obtain ⟨h8, hnf⟩ := cl_nf hc
  obtain ⟨C0, T0, N0⟩ := r
  refine va_get (D := G.1) (v := .int (T.1 o k)) (C := C0) (T := T0) (N := N0) hx hb hg (cl_in hc) hown hK hP o (by rw [wd_at G T ho (by omega), pi_obj h8]) hc k hk (hg _ hl) (fun _ h => by rw [← show (T0 k).1 = C0 from hd]; exact h) ?_ hdg kk
  simp [hnf, hk, fv, hf, show k < N0 from hk]
theorem sy_getl (C : Cx p s m args c cc nL own G) (hP : va_P G.1 sc_cl (wd G T) H) {o ci : Nat} {r : vw_C} (ho : ko o = ci) (hc : sc_cl[ci]? = some r) (k : Nat) (hk : k < r.2.2) (hd : (r.2.1 k).1 = r.1) (hf : fk ci k = 2) {ix : Nat} (hl : Cond.fieldLink own ix r.1 (r.2.1 k).2.1 (r.2.1 k).2.2.1 ∈ gw) (hdg : decode cc pc = .ok (.getfield ix, 3))
    (kk : W p l e R s m args below meth c H locs cells slots Q (F0 m (pc + 3) ls (.long (T.2 o k) :: rest))) : W p l e R s m args below meth c H locs cells slots Q (F0 m pc ls (.ref (G.2.2 o) :: rest)) := by
  obtain ⟨hx, hb, -, hown, hg, hK, -, -⟩ := C
  obtain ⟨h8, hnf⟩ := cl_nf hc
  obtain ⟨C0, T0, N0⟩ := r
  refine va_get (D := G.1) (v := .long (T.2 o k)) (C := C0) (T := T0) (N := N0) hx hb hg (cl_in hc) hown hK hP o (by rw [wd_at G T ho (by omega), pi_obj h8]) hc k hk (hg _ hl) (fun _ h => by rw [← show (T0 k).1 = C0 from hd]; exact h) ?_ hdg kk
  simp [hnf, hk, fv, hf, show k < N0 from hk]
theorem sy_getr (C : Cx p s m args c cc nL own G) (hP : va_P G.1 sc_cl (wd G T) H) {o ci : Nat} {r : vw_C} (ho : ko o = ci) (hc : sc_cl[ci]? = some r) (k : Nat) (hk : k < r.2.2) (hd : (r.2.1 k).1 = r.1) (hf : fk ci k = 1) {j : Nat} (hj : rc ci o k (T.1 o k) = j) {ix : Nat} (hl : Cond.fieldLink own ix r.1 (r.2.1 k).2.1 (r.2.1 k).2.2.1 ∈ gw) (hdg : decode cc pc = .ok (.getfield ix, 3))
    (kk : W p l e R s m args below meth c H locs cells slots Q (F0 m (pc + 3) ls (.ref (G.2.2 j) :: rest))) : W p l e R s m args below meth c H locs cells slots Q (F0 m pc ls (.ref (G.2.2 o) :: rest)) := by
  subst hj
  obtain ⟨hx, hb, -, hown, hg, hK, -, -⟩ := C
  obtain ⟨h8, hnf⟩ := cl_nf hc
  obtain ⟨C0, T0, N0⟩ := r
  refine va_get (D := G.1) (v := .ref (G.2.2 (rc ci o k (T.1 o k)))) (C := C0) (T := T0) (N := N0) hx hb hg (cl_in hc) hown hK hP o (by rw [wd_at G T ho (by omega), pi_obj h8]) hc k hk (hg _ hl) (fun _ h => by rw [← show (T0 k).1 = C0 from hd]; exact h) ?_ hdg kk
  simp [hnf, hk, fv, hf, show k < N0 from hk]
/-- putfield: an int (or boolean) -/
theorem sy_puti (C : Cx p s m args c cc nL own G) (hP : va_P G.1 sc_cl (wd G T) H) (hS : va_S A H0 H locs) (hA : ∀ q, SA G q → A q) {o ci : Nat} {r : vw_C} (ho : ko o = ci) (hc : sc_cl[ci]? = some r) (k : Nat) (hk : k < r.2.2) (hd : (r.2.1 k).1 = r.1) (hf : fk ci k = 0) {ix : Nat} (hl : Cond.fieldLink own ix r.1 (r.2.1 k).2.1 (r.2.1 k).2.2.1 ∈ gw) (hfin : (r.2.1 k).2.2.2 = false) {v : Int32} (hn : narrow (tyc ci k) (.int v) = .int v) (hfit : fits (tyc ci k) (.int v) = true) (hdg : decode cc pc = .ok (.putfield ix, 3))
    (kk : ∀ (H : Heap) (locs : List Loc), va_P G.1 sc_cl (wd G (sv T o k v)) H → va_S A H0 H locs → W p l e R s m args below meth c H locs cells slots Q (F0 m (pc + 3) ls rest)) : W p l e R s m args below meth c H locs cells slots Q (F0 m pc ls (.int v :: .ref (G.2.2 o) :: rest)) := by
  obtain ⟨hx, hb, -, hown, hg, hK, -, hi⟩ := C
  obtain ⟨h8, hnf⟩ := cl_nf hc
  obtain ⟨C0, T0, N0⟩ := r
  have hD : va_D A (wd G T) := (wd_D hi T).weaken (fun _ _ _ h => hA _ h)
  refine va_put (D := G.1) (v := .int v) (ty := tyc ci k) (C := C0) (T := T0) (N := N0) hx hb hg (cl_in hc) (tyc ci) (cl_ty hc) (cl_nm hc) hown hK hP hD hS o (by rw [wd_at G T ho (by omega), pi_obj h8]) hc k hk (hg _ hl) (fun _ h => by rw [← show (T0 k).1 = C0 from hd]; exact h) hfin (cl_ty hc k hk) hn hfit (by simp [hnf]; exact hk) hdg (fun H1 locs1 hP1 _ hS1 => kk H1 locs1 ?_ hS1)
  rw [wd_set G T (sv T o k v) ho (by omega) (e := .inr (ci, ((List.range (nf ci)).map (fv G T ci o)).set k (.int v))) (by rw [pi_obj h8, rm_set (g' := fv G (sv T o k v) ci o) (by simp [fv, hf, sv_at]) (fun j hj => fv_ne hj)]) (fun i hi => pic_sa hi)] at hP1
  exact hP1
theorem sy_putl (C : Cx p s m args c cc nL own G) (hP : va_P G.1 sc_cl (wd G T) H) (hS : va_S A H0 H locs) (hA : ∀ q, SA G q → A q) {o ci : Nat} {r : vw_C} (ho : ko o = ci) (hc : sc_cl[ci]? = some r) (k : Nat) (hk : k < r.2.2) (hd : (r.2.1 k).1 = r.1) (hf : fk ci k = 2) {ix : Nat} (hl : Cond.fieldLink own ix r.1 (r.2.1 k).2.1 (r.2.1 k).2.2.1 ∈ gw) (hfin : (r.2.1 k).2.2.2 = false) {v : Int64} (hn : narrow (tyc ci k) (.long v) = .long v) (hfit : fits (tyc ci k) (.long v) = true) (hdg : decode cc pc = .ok (.putfield ix, 3))
    (kk : ∀ (H : Heap) (locs : List Loc), va_P G.1 sc_cl (wd G (sl T o k v)) H → va_S A H0 H locs → W p l e R s m args below meth c H locs cells slots Q (F0 m (pc + 3) ls rest)) : W p l e R s m args below meth c H locs cells slots Q (F0 m pc ls (.long v :: .ref (G.2.2 o) :: rest)) := by
  obtain ⟨hx, hb, -, hown, hg, hK, -, hi⟩ := C
  obtain ⟨h8, hnf⟩ := cl_nf hc
  obtain ⟨C0, T0, N0⟩ := r
  have hD : va_D A (wd G T) := (wd_D hi T).weaken (fun _ _ _ h => hA _ h)
  refine va_put (D := G.1) (v := .long v) (ty := tyc ci k) (C := C0) (T := T0) (N := N0) hx hb hg (cl_in hc) (tyc ci) (cl_ty hc) (cl_nm hc) hown hK hP hD hS o (by rw [wd_at G T ho (by omega), pi_obj h8]) hc k hk (hg _ hl) (fun _ h => by rw [← show (T0 k).1 = C0 from hd]; exact h) hfin (cl_ty hc k hk) hn hfit (by simp [hnf]; exact hk) hdg (fun H1 locs1 hP1 _ hS1 => kk H1 locs1 ?_ hS1)
  rw [wd_set G T (sl T o k v) ho (by omega) (e := .inr (ci, ((List.range (nf ci)).map (fv G T ci o)).set k (.long v))) (by rw [pi_obj h8, rm_set (g' := fv G (sl T o k v) ci o) (by simp [fv, hf, sl, vp_updL]) (fun j hj => fv_nel hj)]) (fun i hi => pic_sl hi)] at hP1
  exact hP1
/-- putfield: one of a routine's two references -/
theorem sy_putm (C : Cx p s m args c cc nL own G) (hP : va_P G.1 sc_cl (wd G T) H) (hS : va_S A H0 H locs) (hA : ∀ q, SA G q → A q) {o : Nat} {r : vw_C} (ho : ko o = 5) (hc : sc_cl[5]? = some r) (k : Nat) (hk : k < r.2.2) (hd : (r.2.1 k).1 = r.1) (hf : fk 5 k = 1) {ix : Nat} (hl : Cond.fieldLink own ix r.1 (r.2.1 k).2.1 (r.2.1 k).2.2.1 ∈ gw) (hfin : (r.2.1 k).2.2.2 = false) {v : Int32} (hn : ∀ a, narrow (tyc 5 k) (.ref a) = .ref a) (hfit : ∀ a, fits (tyc 5 k) (.ref a) = true) (hdg : decode cc pc = .ok (.putfield ix, 3))
    (kk : ∀ (H : Heap) (locs : List Loc), va_P G.1 sc_cl (wd G (sv T o k v)) H → va_S A H0 H locs → W p l e R s m args below meth c H locs cells slots Q (F0 m (pc + 3) ls rest)) : W p l e R s m args below meth c H locs cells slots Q (F0 m pc ls (.ref (G.2.2 (mb o v)) :: .ref (G.2.2 o) :: rest)) := by
  obtain ⟨hx, hb, -, hown, hg, hK, -, hi⟩ := C
  obtain ⟨h8, hnf⟩ := cl_nf hc
  obtain ⟨C0, T0, N0⟩ := r
  have hD : va_D A (wd G T) := (wd_D hi T).weaken (fun _ _ _ h => hA _ h)
  refine va_put (D := G.1) (v := .ref (G.2.2 (mb o v))) (ty := tyc 5 k) (C := C0) (T := T0) (N := N0) hx hb hg (cl_in hc) (tyc 5) (cl_ty hc) (cl_nm hc) hown hK hP hD hS o (by rw [wd_at G T ho (by omega), pi_obj h8]) hc k hk (hg _ hl) (fun _ h => by rw [← show (T0 k).1 = C0 from hd]; exact h) hfin (cl_ty hc k hk) (hn _) (hfit _) (by simp [hnf]; exact hk) hdg (fun H1 locs1 hP1 _ hS1 => kk H1 locs1 ?_ hS1)
  rw [wd_set G T (sv T o k v) ho (by omega) (e := .inr (5, ((List.range (nf 5)).map (fv G T 5 o)).set k (.ref (G.2.2 (mb o v))))) (by rw [pi_obj h8, rm_set (g' := fv G (sv T o k v) 5 o) (by simp [fv, hf, sv_at, rc]) (fun j hj => fv_ne hj)]) (fun i hi => pic_sa hi)] at hP1
  exact hP1
/-- arrays of ints -/
theorem sy_iald (C : Cx p s m args c cc nL own G) (hP : va_P G.1 sc_cl (wd G T) H) {o n : Nat} (ho : ko o = 10) (hn : len o = n) {i : Int32} (hin : vp_in i n) (hdg : decode cc pc = .ok (.iaload, 1))
    (kk : W p l e R s m args below meth c H locs cells slots Q (F0 m (pc + 1) ls (.int (T.1 o i.toNatClampNeg) :: rest))) : W p l e R s m args below meth c H locs cells slots Q (F0 m pc ls (.int i :: .ref (G.2.2 o) :: rest)) :=
  va_iald C.1 C.2.1 C.2.2.2.2.2.1 hP o 0 (n := n) (by rw [wd_at G T ho (by omega), ← hn]; rfl) rfl hin hdg kk
theorem sy_zald (C : Cx p s m args c cc nL own G) (hP : va_P G.1 sc_cl (wd G T) H) {o n : Nat} (ho : ko o = 11) (hn : len o = n) {i : Int32} (hin : vp_in i n) (hdg : decode cc pc = .ok (.baload, 1))
    (kk : W p l e R s m args below meth c H locs cells slots Q (F0 m (pc + 1) ls (.int (T.1 o i.toNatClampNeg) :: rest))) : W p l e R s m args below meth c H locs cells slots Q (F0 m pc ls (.int i :: .ref (G.2.2 o) :: rest)) :=
  va_zald C.1 C.2.1 C.2.2.2.2.2.1 hP o 1 (n := n) (by rw [wd_at G T ho (by omega), ← hn]; rfl) rfl hin hdg kk
theorem sy_lald (C : Cx p s m args c cc nL own G) (hP : va_P G.1 sc_cl (wd G T) H) {o n : Nat} (ho : ko o = 14) (hn : len o = n) {i : Int32} (hin : vp_in i n) (hdg : decode cc pc = .ok (.laload, 1))
    (kk : W p l e R s m args below meth c H locs cells slots Q (F0 m (pc + 1) ls (.long (T.2 o i.toNatClampNeg) :: rest))) : W p l e R s m args below meth c H locs cells slots Q (F0 m pc ls (.int i :: .ref (G.2.2 o) :: rest)) :=
  va_lald C.1 C.2.1 C.2.2.2.2.2.1 hP o 4 (n := n) (by rw [wd_at G T ho (by omega), ← hn]; rfl) rfl hin hdg kk
theorem sy_iast (C : Cx p s m args c cc nL own G) (hP : va_P G.1 sc_cl (wd G T) H) (hS : va_S A H0 H locs) (hA : ∀ q, SA G q → A q) {o n : Nat} (ho : ko o = 10) (hn : len o = n) {i x : Int32} (hin : vp_in i n) (hdg : decode cc pc = .ok (.iastore, 1))
    (kk : ∀ (H : Heap) (locs : List Loc), va_P G.1 sc_cl (wd G (sv T o i.toNatClampNeg x)) H → va_S A H0 H locs → W p l e R s m args below meth c H locs cells slots Q (F0 m (pc + 1) ls rest)) : W p l e R s m args below meth c H locs cells slots Q (F0 m pc ls (.int x :: .int i :: .ref (G.2.2 o) :: rest)) := by
  have hD : va_D A (wd G T) := (wd_D C.2.2.2.2.2.2.2 T).weaken (fun _ _ _ h => hA _ h)
  refine va_iast C.1 C.2.1 C.2.2.2.2.2.1 hP hD hS o 0 (n := n) (f := T.1 o) (by rw [wd_at G T ho (by omega), ← hn]; rfl) rfl hin hdg (fun H1 locs1 hP1 _ hS1 => kk H1 locs1 ?_ hS1)
  rw [wd_set G T (sv T o i.toNatClampNeg x) ho (by omega) (by rw [← hn]; simp [pi, sv, sa]) (fun i hi => pic_sa hi)] at hP1
  exact hP1
theorem sy_zast (C : Cx p s m args c cc nL own G) (hP : va_P G.1 sc_cl (wd G T) H) (hS : va_S A H0 H locs) (hA : ∀ q, SA G q → A q) {o n : Nat} (ho : ko o = 11) (hn : len o = n) {i x : Int32} (hin : vp_in i n) (hdg : decode cc pc = .ok (.bastore, 1))
    (kk : ∀ (H : Heap) (locs : List Loc), va_P G.1 sc_cl (wd G (sv T o i.toNatClampNeg (vp_nar .boolean x))) H → va_S A H0 H locs → W p l e R s m args below meth c H locs cells slots Q (F0 m (pc + 1) ls rest)) : W p l e R s m args below meth c H locs cells slots Q (F0 m pc ls (.int x :: .int i :: .ref (G.2.2 o) :: rest)) := by
  have hD : va_D A (wd G T) := (wd_D C.2.2.2.2.2.2.2 T).weaken (fun _ _ _ h => hA _ h)
  refine va_zast C.1 C.2.1 C.2.2.2.2.2.1 hP hD hS o 1 (n := n) (f := T.1 o) (by rw [wd_at G T ho (by omega), ← hn]; rfl) rfl hin hdg (fun H1 locs1 hP1 _ hS1 => kk H1 locs1 ?_ hS1)
  rw [wd_set G T (sv T o i.toNatClampNeg (vp_nar .boolean x)) ho (by omega) (by rw [← hn]; simp [pi, sv, sa]) (fun i hi => pic_sa hi)] at hP1
  exact hP1
theorem sy_last (C : Cx p s m args c cc nL own G) (hP : va_P G.1 sc_cl (wd G T) H) (hS : va_S A H0 H locs) (hA : ∀ q, SA G q → A q) {o n : Nat} (ho : ko o = 14) (hn : len o = n) {i : Int32} {x : Int64} (hin : vp_in i n) (hdg : decode cc pc = .ok (.lastore, 1))
    (kk : ∀ (H : Heap) (locs : List Loc), va_P G.1 sc_cl (wd G (sl T o i.toNatClampNeg x)) H → va_S A H0 H locs → W p l e R s m args below meth c H locs cells slots Q (F0 m (pc + 1) ls rest)) : W p l e R s m args below meth c H locs cells slots Q (F0 m pc ls (.long x :: .int i :: .ref (G.2.2 o) :: rest)) := by
  have hD : va_D A (wd G T) := (wd_D C.2.2.2.2.2.2.2 T).weaken (fun _ _ _ h => hA _ h)
  refine va_last C.1 C.2.1 C.2.2.2.2.2.1 hP hD hS o 4 (n := n) (f := T.2 o) (by rw [wd_at G T ho (by omega), ← hn]; rfl) rfl hin hdg (fun H1 locs1 hP1 _ hS1 => kk H1 locs1 ?_ hS1)
  rw [wd_set G T (sl T o i.toNatClampNeg x) ho (by omega) (by rw [← hn]; simp [pi, sl]) (fun i hi => pic_sl hi)] at hP1
  exact hP1
theorem sy_alen (C : Cx p s m args c cc nL own G) (hP : va_P G.1 sc_cl (wd G T) H) {o n : Nat} (ho : ko o = 10) (hn : len o = n) {v : Int32} (hv : Int32.ofNat n = v) (hdg : decode cc pc = .ok (.arraylength, 1))
    (kk : W p l e R s m args below meth c H locs cells slots Q (F0 m (pc + 1) ls (.int v :: rest))) : W p l e R s m args below meth c H locs cells slots Q (F0 m pc ls (.ref (G.2.2 o) :: rest)) :=
  va_alen C.1 C.2.1 C.2.2.2.2.2.1 hP o 0 (x := (n, .inl (T.1 o))) (by rw [wd_at G T ho (by omega), ← hn]; rfl) rfl hv hdg kk
/-- arrays of references: of routines, of rows -/
theorem sy_aldR (C : Cx p s m args c cc nL own G) (hP : va_P G.1 sc_cl (wd G T) H) {i : Int32} (hin : vp_in i 10) (hdg : decode cc pc = .ok (.aaload, 1))
    (kk : W p l e R s m args below meth c H locs cells slots Q (F0 m (pc + 1) ls (.ref (G.2.2 (27 + 9 * i.toNatClampNeg)) :: rest))) : W p l e R s m args below meth c H locs cells slots Q (F0 m pc ls (.int i :: .ref (G.2.2 6) :: rest)) :=
  va_aldq C.1 C.2.1 C.2.2.2.2.2.1 hP 6 2 (n := 10) (f := fun j => some (G.2.2 (rc 12 6 j 0))) (by rw [wd_at G T (c := 12) rfl (by omega)]; rfl) rfl hin hdg kk
theorem sy_aldG (C : Cx p s m args c cc nL own G) (hP : va_P G.1 sc_cl (wd G T) H) {o n : Nat} (ho : ko o = 13) (hn : len o = n) {i : Int32} (hin : vp_in i n) (hdg : decode cc pc = .ok (.aaload, 1))
    (kk : W p l e R s m args below meth c H locs cells slots Q (F0 m (pc + 1) ls (.ref (G.2.2 (o + 1 + i.toNatClampNeg)) :: rest))) : W p l e R s m args below meth c H locs cells slots Q (F0 m pc ls (.int i :: .ref (G.2.2 o) :: rest)) := by
  have hlt : i.toNatClampNeg < n := Nat.not_le.mp fun q => hin (Or.inr q)
  have ha : (wd G T)[o]? = some (G.2.2 o, .inl (G.2.1 3, n, .inr (.inr (.inr (.inr (fun j => some (G.2.2 (rc 13 o j 0)))))))) := by rw [wd_at G T ho (by omega), ← hn]; rfl
  exact W.aald (v := va_rf (some (G.2.2 (rc 13 o i.toNatClampNeg 0)))) (ty := .array .int) C.1 C.2.1 (hP o _ ha) ((C.2.2.2.2.2.1.2 3 _ rfl).1 n (fun j => va_rf (some (G.2.2 (rc 13 o j 0))))) rfl (fun q => by cases q) (by show ¬ (i < 0 ∨ (arrV _ _ _).slots.size ≤ _); rw [arrV_size]; exact hin) (by show (arrV _ _ _).slots[_]? = _; rw [arrV_read _ _ hlt]) rfl rfl hdg kk
/-- the ends -/
theorem sy_iret {post : Int32 → St → Prop} {v : Int32} (C : Cx p s m args c cc nL own G) (hr : meth.sig.returnType = some .int) (hlocks : meth.locks = false) (hP : va_P G.1 sc_cl (wd G T) H) (hS : va_S (SA G) s.heap H locs) (hp : post v T) (hdg : decode cc pc = .ok (.ireturn, 1)) : W p l e R s m args below meth c H locs 0 0 (MQ below (va_Qi post (Sy G) (SA G)) args s 0 0 (SA G)) (F0 m pc ls [.int v]) :=
  W.iret C.1 C.2.1 hr (fun t ht hW => ⟨⟨v, T, rfl, hp, Sy.to hP C.2.2.2.2.2.1 C.2.2.2.2.2.2.1 ht hW⟩, hS.F ht⟩) hS.2.2 hdg hlocks
theorem sy_zret {post : Int32 → St → Prop} {v : Int32} (C : Cx p s m args c cc nL own G) (hr : meth.sig.returnType = some .boolean) (hlocks : meth.locks = false) (hP : va_P G.1 sc_cl (wd G T) H) (hS : va_S (SA G) s.heap H locs) (hn : narrow .boolean (.int v) = .int v) (hp : post v T) (hdg : decode cc pc = .ok (.ireturn, 1)) : W p l e R s m args below meth c H locs 0 0 (MQ below (va_Qi post (Sy G) (SA G)) args s 0 0 (SA G)) (F0 m pc ls [.int v]) :=
  W.zret C.1 C.2.1 hr hn (fun t ht hW => ⟨⟨v, T, rfl, hp, Sy.to hP C.2.2.2.2.2.1 C.2.2.2.2.2.2.1 ht hW⟩, hS.F ht⟩) hS.2.2 hdg hlocks
theorem sy_vret {post : St → Prop} (C : Cx p s m args c cc nL own G) (hr : meth.sig.returnType = none) (hlocks : meth.locks = false) (hP : va_P G.1 sc_cl (wd G T) H) (hS : va_S (SA G) s.heap H locs) (hp : post T) (hdg : decode cc pc = .ok (.return_, 1)) : W p l e R s m args below meth c H locs 0 0 (MQ below (va_Qv post (Sy G) (SA G)) args s 0 0 (SA G)) (F0 m pc ls []) :=
  W.vret C.1 C.2.1 hr (fun t ht hW => ⟨⟨T, rfl, hp, Sy.to hP C.2.2.2.2.2.1 C.2.2.2.2.2.2.1 ht hW⟩, hS.F ht⟩) hS.2.2 hdg hlocks
def Qr (post : Nat → St → Prop) (G : Gm) : Array Value → State → Outcome → State → Prop := va_Qr (S := Nat × St) (fun u => post u.1 u.2) (fun u a t => a = G.2.2 u.1 ∧ Sy G u.2 t) (SA G)
theorem sy_aret {post : Nat → St → Prop} {o : Nat} {ty : FieldType} (C : Cx p s m args c cc nL own G) (hr : meth.sig.returnType = some (.array ty)) (hlocks : meth.locks = false) (hP : va_P G.1 sc_cl (wd G T) H) (hS : va_S (SA G) s.heap H locs) (hp : post o T) (hdg : decode cc pc = .ok (.areturn, 1)) : W p l e R s m args below meth c H locs 0 0 (MQ below (Qr post G) args s 0 0 (SA G)) (F0 m pc ls [.ref (G.2.2 o)]) :=
  W.aret C.1 C.2.1 hr (Or.inr ⟨_, rfl⟩) (Or.inr ⟨_, rfl⟩) (fun t ht hW => ⟨⟨(o, T), G.2.2 o, rfl, hp, rfl, Sy.to hP C.2.2.2.2.2.1 C.2.2.2.2.2.2.1 ht hW⟩, hS.F ht⟩) hS.2.2 hdg hlocks
end SY
/-- a method's contract: from the state T it comes to a state with post -/
abbrev Mi (l : Launch) (y : MethodName) (cc : ByteArray) (nL : Nat) (ret : Option FieldType) (fr lo : Nat) (G : Gm) (av : List Value) (T : St) (post : Int32 → St → Prop) : Prop :=
  Met l y (.code y cc nL ret :: gw) { frames := fr, cells := 0, slots := 0, locals := lo } (va_Pc av (Sy G T)) (va_Qi post (Sy G) (SA G)) 0 0 (SA G)
abbrev Mv (l : Launch) (y : MethodName) (cc : ByteArray) (nL : Nat) (ret : Option FieldType) (fr lo : Nat) (G : Gm) (av : List Value) (T : St) (post : St → Prop) : Prop :=
  Met l y (.code y cc nL ret :: gw) { frames := fr, cells := 0, slots := 0, locals := lo } (va_Pc av (Sy G T)) (va_Qv post (Sy G) (SA G)) 0 0 (SA G)
abbrev Mr (l : Launch) (y : MethodName) (cc : ByteArray) (nL : Nat) (ret : Option FieldType) (fr lo : Nat) (G : Gm) (av : List Value) (T : St) (post : Nat → St → Prop) : Prop :=
  Met l y (.code y cc nL ret :: gw) { frames := fr, cells := 0, slots := 0, locals := lo } (va_Pc av (Sy G T)) (Qr post G) 0 0 (SA G)
/-- a method's beginning -/
theorem sy_head {l : Launch} {y : MethodName} {cc : ByteArray} {nL : Nat} {ret : Option FieldType} {fr lo : Nat} {G : Gm} {av : List Value} {T : St} {Qc : Array Value → State → Outcome → State → Prop} {lv : List (Nat × Value)} (hi : Inj G) (hy : plainName y.cls = true) (hlen : (lg_sl av).length ≤ nL) (hlv : lv_args 0 av = lv)
    (body : ∀ (p : Program) (e : Env) (s : State) (m : MethodId) (below : List Frame) (meth : Method) (c : Code), Cx p s m av.toArray c cc nL y.cls G → meth.sig.returnType = ret → meth.locks = false → va_P G.1 sc_cl (wd G T) s.heap → va_S (SA G) s.heap s.heap [] → ∀ ls : Array Slot, lv_has ls nL lv →
      W p l e { frames := fr, cells := 0, slots := 0, locals := lo } s m av.toArray below meth c s.heap [] 0 0 (MQ below Qc av.toArray s 0 0 (SA G)) (F0 m 0 ls [])) :
    Met l y (.code y cc nL ret :: gw) { frames := fr, cells := 0, slots := 0, locals := lo } (va_Pc av (Sy G T)) Qc 0 0 (SA G) := by
  refine Met.ofW (cc := cc) (maxL := nL) (ret := ret) hy rfl ?_
  intro p e s m args below meth c s₁ B hml hv
  obtain ⟨rfl, hP, hK, hN⟩ := hv
  have hts := atoms_spec (ws := .code y cc nL ret :: gw) B.pre
  rw [lg_entry_eq]
  subst hlv
  exact body p e s m below meth c ⟨B.exec, B.bytes, hml, findClass_of_methodNamed B.named, fun w hw => hts w (List.mem_cons_of_mem _ hw), hK, hN, hi⟩ B.returns B.notSynchronized hP va_S.rf _ (lv_entry av hlen)
/-- what the tables say of a method that is called -/
def MW (y : MethodName) (cc : ByteArray) (nL : Nat) (ret : Option FieldType) (n : Nat) : Prop :=
  Cond.code y cc nL ret ∈ gw ∧ Cond.initialized y.cls ∈ gw ∧ (y.cls ≠ "java/lang/invoke/MethodHandle" ∧ y.cls ≠ "java/lang/invoke/VarHandle" ∧ (parseMethodDescriptor y.desc).map (fun d => d.parameters.length) = some n)
section SYC
variable {p : Program} {l : Launch} {e : Env} {R : Room} {s : State} {m : MethodId} {args : Array Value} {below : List Frame} {meth : Method} {c : Code} {H H0 : Heap} {locs : List Loc} {cells slots : Nat} {Q : State → Prop} {A : Nat → Prop}
variable {cc : ByteArray} {pc nL : Nat} {ls : Array Slot} {rest st0 As : List Value} {own : String} {G : Gm} {T : St} {y : MethodName} {yc : ByteArray} {yn n fr lo ix : Nat} {ret : Option FieldType} {Qc : Array Value → State → Outcome → State → Prop}
theorem sy_pre (C : Cx p s m args c cc nL own G) (hP : va_P G.1 sc_cl (wd G T) H) : ∀ U : State, U.heap = H → s.WarmedH U.vm → va_Pc As (Sy G T) As.toArray U := fun U hU hW => ⟨rfl, Sy.to hP C.2.2.2.2.2.1 C.2.2.2.2.2.2.1 hU hW⟩
theorem sy_cb (C : Cx p s m args c cc nL own G) (mw : MW y yc yn ret n) (hl : Cond.methodLink own ix y ∈ gw) (hR : fr + 1 ≤ R.frames ∧ 8 + (yn + 11) + lo ≤ R.locals) : CallB R s args own ix y yc yn ret (.code y yc yn ret :: gw) { frames := fr, cells := 0, slots := 0, locals := lo } 0 0 n :=
  callB_of n C.2.2.2.2.1 (gw_in (fun _ h => h) mw.1) rfl rfl rfl (C.2.2.2.2.1 _ mw.2.1) (C.2.2.2.2.1 _ hl) mw.2.2 hR
theorem sy_runV {o ci : Nat} {r : vw_C} (C : Cx p s m args c cc nL own G) (hP : va_P G.1 sc_cl (wd G T) H) (ho : ko o = ci) (hc : sc_cl[ci]? = some r) (hM : Met l y (.code y yc yn ret :: gw) { frames := fr, cells := 0, slots := 0, locals := lo } (va_Pc (.ref (G.2.2 o) :: As) (Sy G T)) Qc 0 0 (SA G)) (mw : MW y yc yn ret n) (h1 : Cond.instanceMethod y ∈ gw) (h2 : Cond.selects r.1 y y ∈ gw) (hl : Cond.methodLink own ix y ∈ gw)
    (hn : As.length = n) (hsize : ls.size = nL) (hst : st0 = As.reverse ++ .ref (G.2.2 o) :: rest) (hW : (rest.map fun v => v.category).sum ≤ 8) (hR : fr + 1 ≤ R.frames ∧ 8 + (yn + 11) + lo ≤ R.locals) (hdg : decode cc pc = .ok (.invokevirtual ix, 3)) (hf : cells + 0 ≤ R.cells ∧ slots + 0 ≤ R.slots) :
    va_Run p l e R s m args below meth c H locs cells slots 0 0 (F0 m pc ls st0) rest (Qc (Value.ref (G.2.2 o) :: As).toArray) (SA G) := by
  have h99 := (cl_nf hc).1
  exact va_runV (C := r.1) (Ts := gw) ⟨C.1, C.2.1, C.2.2.1, C.2.2.2.1, C.2.2.2.2.1⟩ hM ⟨sy_cb C mw hl hR, C.2.2.2.2.1 _ h1, C.2.2.2.2.1 _ h2⟩ ⟨Sy.blind, va_recv C.2.2.2.2.2.1 hP hc (by rw [wd_at G T ho (by omega), pi_obj h99]), sy_pre C hP⟩ rfl hn hsize hst (lv_room hW) hdg hf
theorem sy_runS (C : Cx p s m args c cc nL own G) (hP : va_P G.1 sc_cl (wd G T) H) (hM : Met l y (.code y yc yn ret :: gw) { frames := fr, cells := 0, slots := 0, locals := lo } (va_Pc As (Sy G T)) Qc 0 0 (SA G)) (mw : MW y yc yn ret n) (h1 : Cond.static y ∈ gw) (hl : Cond.methodLink own ix y ∈ gw)
    (hn : As.length = n) (hsize : ls.size = nL) (hst : st0 = As.reverse ++ rest) (hW : (rest.map fun v => v.category).sum ≤ 8) (hR : fr + 1 ≤ R.frames ∧ 8 + (yn + 11) + lo ≤ R.locals) (hdg : decode cc pc = .ok (.invokestatic ix, 3)) (hf : cells + 0 ≤ R.cells ∧ slots + 0 ≤ R.slots) :
    va_Run p l e R s m args below meth c H locs cells slots 0 0 (F0 m pc ls st0) rest (Qc As.toArray) (SA G) :=
  va_runS (Ts := gw) ⟨C.1, C.2.1, C.2.2.1, C.2.2.2.1, C.2.2.2.2.1⟩ hM ⟨sy_cb C mw hl hR, C.2.2.2.2.1 _ h1⟩ ⟨Sy.blind, sy_pre C hP⟩ rfl hn hsize hst (lv_room hW) hdg hf
theorem sy_runSN {host : String} (C : Cx p s m args c cc nL own G) (hP : va_P G.1 sc_cl (wd G T) H) (hM : Met l y (.code y yc yn ret :: gw) { frames := fr, cells := 0, slots := 0, locals := lo } (va_Pc As (Sy G T)) Qc 0 0 (SA G)) (mw : MW y yc yn ret n) (h1 : Cond.static y ∈ gw) (hl : (own, ix, y, host) ∈ nws)
    (hn : As.length = n) (hsize : ls.size = nL) (hst : st0 = As.reverse ++ rest) (hW : (rest.map fun v => v.category).sum ≤ 8) (hR : fr + 1 ≤ R.frames ∧ 8 + (yn + 11) + lo ≤ R.locals) (hdg : decode cc pc = .ok (.invokestatic ix, 3)) (hf : cells + 0 ≤ R.cells ∧ slots + 0 ≤ R.slots) :
    va_Run p l e R s m args below meth c H locs cells slots 0 0 (F0 m pc ls st0) rest (Qc As.toArray) (SA G) :=
  va_runSN (Ts := gw) (host := host) ⟨C.1, C.2.1, C.2.2.1, C.2.2.2.1, C.2.2.2.2.1⟩ hM ⟨va_cnB n C.2.2.2.2.1 (gw_in (fun _ h => h) mw.1) rfl rfl rfl (C.2.2.2.2.2.2.1 _ hl) (C.2.2.2.2.1 _ mw.2.1) mw.2.2 hR, C.2.2.2.2.1 _ h1, trivial⟩ ⟨Sy.blind, sy_pre C hP⟩ rfl hn hsize hst (lv_room hW) hdg hf
theorem sy_goi {a : Array Value} {post : Int32 → St → Prop} (hr : va_Run p l e R s m args below meth c H locs cells slots 0 0 (F0 m pc ls st0) rest (va_Qi post (Sy G) (SA G) a) (SA G)) (hS : va_S A H0 H locs) (hA : ∀ q, SA G q → A q)
    (kk : ∀ (r : Int32) (T' : St) (H : Heap) (locs : List Loc), post r T' → va_P G.1 sc_cl (wd G T') H → va_S A H0 H locs → W p l e R s m args below meth c H locs cells slots Q (F0 m (pc + 3) ls (.int r :: rest))) : W p l e R s m args below meth c H locs cells slots Q (F0 m pc ls st0) :=
  va_calli hr hS (fun q _ h => hA q h) hA (fun r u t H1 locs1 ht _ hp hB _ _ hS1 => kk r u H1 locs1 hp (by rw [← ht]; exact hB.1) hS1)
theorem sy_gov {a : Array Value} {post : St → Prop} (hr : va_Run p l e R s m args below meth c H locs cells slots 0 0 (F0 m pc ls st0) rest (va_Qv post (Sy G) (SA G) a) (SA G)) (hS : va_S A H0 H locs) (hA : ∀ q, SA G q → A q)
    (kk : ∀ (T' : St) (H : Heap) (locs : List Loc), post T' → va_P G.1 sc_cl (wd G T') H → va_S A H0 H locs → W p l e R s m args below meth c H locs cells slots Q (F0 m (pc + 3) ls rest)) : W p l e R s m args below meth c H locs cells slots Q (F0 m pc ls st0) :=
  va_callv hr hS (fun q _ h => hA q h) hA (fun u t H1 locs1 ht _ hp hB _ _ hS1 => kk u H1 locs1 hp (by rw [← ht]; exact hB.1) hS1)
theorem sy_gor {a : Array Value} {post : Nat → St → Prop} (hr : va_Run p l e R s m args below meth c H locs cells slots 0 0 (F0 m pc ls st0) rest (Qr post G a) (SA G)) (hS : va_S A H0 H locs) (hA : ∀ q, SA G q → A q)
    (kk : ∀ (o : Nat) (T' : St) (H : Heap) (locs : List Loc), post o T' → va_P G.1 sc_cl (wd G T') H → va_S A H0 H locs → W p l e R s m args below meth c H locs cells slots Q (F0 m (pc + 3) ls (.ref (G.2.2 o) :: rest))) : W p l e R s m args below meth c H locs cells slots Q (F0 m pc ls st0) :=
  va_callr hr hS (fun q _ h => hA q h) hA (fun u ra t H1 locs1 ht _ hp hB _ _ hS1 => by rw [hB.1]; exact kk u.1 u.2 H1 locs1 hp (by rw [← ht]; exact hB.2.1) hS1)
/-- System.arraycopy of 256 ints between two rows -/
theorem sy_copy (C : Cx p s m args c cc nL own G) (hP : va_P G.1 sc_cl (wd G T) H) (hS : va_S A H0 H locs) (hA : ∀ q, SA G q → A q) (hsize : ls.size = nL) {o1 o2 : Nat} (h1 : ko o1 = 10) (h2 : ko o2 = 10) (n1 : len o1 = 256) (n2 : len o2 = 256) (hl : Cond.methodLink own ix arraycopyName ∈ gw) (w1 : Cond.native arraycopyName ∈ gw) (w2 : Cond.static arraycopyName ∈ gw) (w3 : Cond.initialized "java/lang/System" ∈ gw) (hfr : 1 ≤ R.frames) (hlo : (rest.map fun v => v.category).sum + (nativeFrameWords "java/lang/System" "arraycopy" 5 + 11) ≤ R.locals) (hdg : decode cc pc = .ok (.invokestatic ix, 3))
    (kk : ∀ (H : Heap) (locs : List Loc), va_P G.1 sc_cl (wd G (sa T o2 (va_cpy (T.1 o1) (T.1 o2) 0 0 256))) H → va_S A H0 H locs → W p l e R s m args below meth c H locs cells slots Q (F0 m (pc + 3) ls rest)) : W p l e R s m args below meth c H locs cells slots Q (F0 m pc ls (.int 256 :: .int 0 :: .ref (G.2.2 o2) :: .int 0 :: .ref (G.2.2 o1) :: rest)) := by
  obtain ⟨hx, hb, hml, hown, hg, hK, -, hi⟩ := C
  have hD : va_D A (wd G T) := (wd_D hi T).weaken (fun _ _ _ h => hA _ h)
  have e0 : (0 : Int32).toNatClampNeg = 0 := by decide
  have e256 : (256 : Int32).toNatClampNeg = 256 := by decide
  refine va_copyi hx hb (by rw [hml, hsize]) hown (hg _ hl) (hg _ w1) (hg _ w2) (hg _ w3) hK hP hD hS o1 o2 0 0 (n0 := 256) (n1 := 256) (f := T.1 o1) (g := T.1 o2) (ty := .int) (by rw [wd_at G T h1 (by omega), ← n1]; rfl) (by rw [wd_at G T h2 (by omega), ← n2]; rfl) rfl rfl rfl (by decide) (by decide) (by decide) (by rw [e0, e256]; decide) (by rw [e0, e256]; decide) (fun i _ => rfl) hfr hlo hdg (fun H1 locs1 hP1 _ hS1 => kk H1 locs1 ?_ hS1)
  rw [e0, e256] at hP1
  rw [wd_set G T (sa T o2 (va_cpy (T.1 o1) (T.1 o2) 0 0 256)) h2 (by omega) (by rw [← n2]; simp [pi, sa]) (fun i hi => pic_sa hi)] at hP1
  exact hP1
end SYC
/-- a loop: an invariant and a measure that falls -/
def LW {V : Type} (F : (V → St → Prop) → V → St → Prop) (v0 : V) (T0 : St) : Prop :=
  ∃ (I : V → St → Prop) (μ : V → St → Nat), I v0 T0 ∧ ∀ (v : V) (T : St), I v T → F (fun v' T' => I v' T' ∧ μ v' T' < μ v T) v T
/-! kinds and lengths of cells that are told by others -/
theorem ko_ro {i : Int32} (h : vp_in i 10) : ko (27 + 9 * i.toNatClampNeg) = 5 := by
  have hlt : i.toNatClampNeg < 10 := Nat.not_le.mp fun q => h (Or.inr q)
  generalize i.toNatClampNeg = k at hlt ⊢
  revert k
  decide
theorem ko_all (P : Nat → Bool) (h : (List.range 152).all P = true) {o : Nat} (ho : o < 152) : P o = true := List.all_eq_true.mp h o (List.mem_range.mpr ho)
theorem ko_mb {o : Nat} (h : ko o = 5) (e : Int32) : ko (mb o e) = 3 := by
  have hl := ko_lt h (by omega)
  have h1 := ko_all (fun o => !(ko o == 5) || (ko (o + 1) == 3 && ko (o + 5) == 3)) (by decide +kernel) hl
  simp [h] at h1
  unfold mb
  split
  · exact h1.1
  · exact h1.2
theorem ko_mem {o : Nat} (h : ko o = 3) : (ko (o + 1) = 10 ∧ len (o + 1) = 24) ∧ (ko (o + 2) = 10 ∧ len (o + 2) = 24) ∧ (ko (o + 3) = 10 ∧ len (o + 3) = 24) := by
  have hl := ko_lt h (by omega)
  have h1 := ko_all (fun o => !(ko o == 3) || ((ko (o + 1) == 10 && len (o + 1) == 24) && (ko (o + 2) == 10 && len (o + 2) == 24) && (ko (o + 3) == 10 && len (o + 3) == 24))) (by decide +kernel) hl
  simp [h] at h1
  exact ⟨h1.1.1, h1.1.2, h1.2⟩
theorem ko_by {o : Nat} (h : ko o = 4) : ko (o + 1) = 10 ∧ len (o + 1) = 256 := by
  have hl := ko_lt h (by omega)
  have h1 := ko_all (fun o => !(ko o == 4) || (ko (o + 1) == 10 && len (o + 1) == 256)) (by decide +kernel) hl
  simp [h] at h1
  exact h1
theorem ko_co {o : Nat} (h : ko o = 0) : ko (mo o) = 4 ∧ (ko (wi o) = 10 ∧ len (wi o) = 6) ∧ (ko (wi o + 1) = 10 ∧ len (wi o + 1) = 6) := by
  have hl := ko_lt h (by omega)
  have h1 := ko_all (fun o => !(ko o == 0) || (ko (mo o) == 4 && (ko (wi o) == 10 && len (wi o) == 6) && (ko (wi o + 1) == 10 && len (wi o + 1) == 6))) (by decide +kernel) hl
  simp [h] at h1
  exact ⟨h1.1.1, h1.1.2, h1.2⟩
theorem ko_row {o n : Nat} (h : (o = 8 ∧ n = 9) ∨ (o = 18 ∧ n = 4)) {i : Int32} (hi : vp_in i n) : ko (o + 1 + i.toNatClampNeg) = 10 ∧ len (o + 1 + i.toNatClampNeg) = 256 := by
  have hlt : i.toNatClampNeg < n := Nat.not_le.mp fun q => hi (Or.inr q)
  generalize i.toNatClampNeg = k at hlt ⊢
  rcases h with ⟨rfl, rfl⟩ | ⟨rfl, rfl⟩ <;> revert k <;> decide

