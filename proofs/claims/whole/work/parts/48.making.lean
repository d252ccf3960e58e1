/-! making: the world as far as n cells, each at its number -/
theorem q_21 : Cond.classLink RL 8 RX6 ∈ gw := gw_t 21 (by decide +kernel) (by decide +kernel)
theorem q_22 : Cond.instantiable RX6 16 ∈ gw := gw_t 22 (by decide +kernel) (by decide +kernel)
theorem q_29 : Cond.classLink RX6 7 RX1 ∈ gw := gw_t 29 (by decide +kernel) (by decide +kernel)
theorem q_30 : Cond.instantiable RX1 2 ∈ gw := gw_t 30 (by decide +kernel) (by decide +kernel)
theorem q_45 : Cond.arrayClass .int ∈ gw := gw_t 45 (by decide +kernel) (by decide +kernel)
theorem q_46 : Cond.classLink RX6 16 RX4 ∈ gw := gw_t 46 (by decide +kernel) (by decide +kernel)
theorem q_47 : Cond.instantiable RX4 6 ∈ gw := gw_t 47 (by decide +kernel) (by decide +kernel)
theorem q_79 : Cond.classLink RX6 25 RX5 ∈ gw := gw_t 79 (by decide +kernel) (by decide +kernel)
theorem q_81 : Cond.classLink RX6 31 RX2 ∈ gw := gw_t 81 (by decide +kernel) (by decide +kernel)
theorem q_82 : Cond.instantiable RX2 3 ∈ gw := gw_t 82 (by decide +kernel) (by decide +kernel)
theorem q_87 : Cond.classLink RX2 11 "[[I" ∈ gw := gw_t 87 (by decide +kernel) (by decide +kernel)
theorem q_100 : Cond.classLink RX6 38 "[[I" ∈ gw := gw_t 100 (by decide +kernel) (by decide +kernel)
theorem q_101 : Cond.classLink RX6 43 RX3 ∈ gw := gw_t 101 (by decide +kernel) (by decide +kernel)
theorem q_102 : Cond.instantiable RX3 4 ∈ gw := gw_t 102 (by decide +kernel) (by decide +kernel)
theorem q_127 : Cond.instantiable RX5 5 ∈ gw := gw_t 127 (by decide +kernel) (by decide +kernel)
theorem q_132 : Cond.classLink RX5 9 RX3 ∈ gw := gw_t 132 (by decide +kernel) (by decide +kernel)
theorem q_156 : Cond.classLink RX6 51 RX0 ∈ gw := gw_t 156 (by decide +kernel) (by decide +kernel)
theorem q_157 : Cond.instantiable RX0 16 ∈ gw := gw_t 157 (by decide +kernel) (by decide +kernel)
theorem q_737 : Cond.classLink RL 28 RX7 ∈ gw := gw_t 737 (by decide +kernel) (by decide +kernel)
theorem q_738 : Cond.instantiable RX7 40 ∈ gw := gw_t 738 (by decide +kernel) (by decide +kernel)
theorem q_864 : Cond.arrayClass .boolean ∈ gw := gw_t 864 (by decide +kernel) (by decide +kernel)
theorem q_1014 : Cond.arrayClass .long ∈ gw := gw_t 1014 (by decide +kernel) (by decide +kernel)
def wx (G : Gm) (n : Nat) (X : Nat → va_E) : va_W := (List.range n).map (fun o => (G.2.2 o, X o))
def Ad (G : Gm) : Prop := ∀ o, G.2.2 o = G.2.2 0 + o
def AB (G : Gm) (q : Nat) : Prop := G.2.2 0 ≤ q
def PX (G : Gm) (n : Nat) (X : Nat → va_E) (H : Heap) : Prop := H.size = G.2.2 n ∧ va_P G.1 sc_cl (wx G n X) H
def ux (X : Nat → va_E) (o : Nat) (e : va_E) : Nat → va_E := fun i => if i = o then e else X i
theorem ux_k {X : Nat → va_E} {o : Nat} {e : va_E} : ux X o e o = e := if_pos rfl
theorem ux_j {X : Nat → va_E} {o i : Nat} {e : va_E} (h : i ≠ o) : ux X o e i = X i := if_neg h
theorem wx_at {G : Gm} {n o : Nat} {X : Nat → va_E} (h : o < n) : (wx G n X)[o]? = some (G.2.2 o, X o) := by simp [wx, h]
theorem wx_le {G : Gm} {n : Nat} {X : Nat → va_E} {k : Nat} {q : Nat × va_E} (h : (wx G n X)[k]? = some q) : k < n ∧ q = (G.2.2 k, X k) := by
  unfold wx at h
  rw [List.getElem?_map] at h
  cases hr : (List.range n)[k]? with
  | none => rw [hr] at h; cases h
  | some j =>
    rw [hr] at h
    obtain ⟨h1, h2⟩ := List.getElem?_eq_some_iff.mp hr
    have h3 : k = j := by simpa using h2
    subst h3
    cases h
    exact ⟨by simpa using h1, rfl⟩
theorem wx_set {G : Gm} {n o : Nat} {X : Nat → va_E} {e : va_E} (h : o < n) : (wx G n X).set o (G.2.2 o, e) = wx G n (ux X o e) := by
  apply List.ext_getElem?
  intro k
  by_cases hk : k = o
  · subst hk
    rw [List.getElem?_set_self (by simp [wx, h]), wx_at h, ux_k]
  · rw [List.getElem?_set_ne (Ne.symm hk)]
    by_cases hn : k < n
    · rw [wx_at hn, wx_at hn, ux_j hk]
    · simp [wx, hn]
theorem wx_D {G : Gm} (hA : Ad G) {n : Nat} {X : Nat → va_E} : va_D (AB G) (wx G n X) := by
  refine ⟨fun i j p q h1 h2 h3 => ?_, fun k q h => ?_⟩
  · obtain ⟨-, rfl⟩ := wx_le h1
    obtain ⟨-, rfl⟩ := wx_le h2
    have h3 : G.2.2 i = G.2.2 j := h3
    rw [hA i, hA j] at h3
    omega
  · obtain ⟨-, rfl⟩ := wx_le h
    show G.2.2 0 ≤ G.2.2 k
    rw [hA k]; omega
/-- one cell more -/
theorem PX.push {G : Gm} (hA : Ad G) {n : Nat} {X : Nat → va_E} {H H1 : Heap} {e : va_E} (h : PX G n X H) (hz : H1.size = H.size + 1) (ho : ∀ q, q < H.size → H1[q]? = H[q]?) (he : va_at G.1 sc_cl (G.2.2 n, e) H1) : PX G (n + 1) (ux X n e) H1 := by
  refine ⟨by rw [hz, h.1, hA n, hA (n + 1)]; omega, fun k q hq => ?_⟩
  obtain ⟨hk, rfl⟩ := wx_le hq
  by_cases e' : k = n
  · subst e'; rw [ux_k]; exact he
  · rw [ux_j e']
    have h1 := h.2 k _ (wx_at (by omega))
    exact h1.kept (ho _ h1.lt)
theorem AB.new {G : Gm} (hA : Ad G) {n : Nat} {X : Nat → va_E} {H0 H H1 : Heap} {locs : List Loc} (h : PX G n X H) (hz : H.size ≤ H1.size) (ho : ∀ q, q < H.size → H1[q]? = H[q]?) (hS : va_S (AB G) H0 H locs) : va_S (AB G) H0 H1 locs := ⟨Nat.le_trans hS.1 hz, fun x h1 h2 => (ho x (Nat.lt_of_lt_of_le h1 hS.1)).trans (hS.2.1 x h1 h2), hS.2.2⟩
/-- the two words on arrays over classes that a contract must carry itself -/
def AO (U : State) : Prop := (Cond.arrayOver (.object "SelfChange$Routine")).before #[] U = true ∧ (Cond.arrayOver (.array .int)).before #[] U = true
theorem AO.moved {u U : State} (hvm : u.vm.Alike U.vm) (h : AO u) : AO U := ⟨va_AO.use (va_AO.moved hvm (va_AO.of h.1)), over_moved hvm h.2⟩
def SX (G : Gm) (n : Nat) (X : Nat → va_E) (U : State) : Prop := PX G n X U.heap ∧ va_K G.1 sc_cl (tys G) U ∧ NW U ∧ AO U
theorem SX.blind {G : Gm} {n : Nat} {X : Nat → va_E} {av : List Value} : FrameBlind (va_Pc av (SX G n X)) := fun a U g mk h => ⟨h.1, h.2.1, va_K.moved (u := U) (U := U.calling g mk a) (Vm.Alike.refl U.vm) h.2.2.1, NW.same (s := U) (U := U.calling g mk a) rfl h.2.2.2.1, AO.moved (u := U) (U := U.calling g mk a) (Vm.Alike.refl U.vm) h.2.2.2.2⟩
def Cy (p : Program) (s : State) (m : MethodId) (args : Array Value) (c : Code) (cc : ByteArray) (nL : Nat) (own : String) (G : Gm) : Prop := Cx p s m args c cc nL own G ∧ Ad G ∧ AO s
section CYS
variable {p : Program} {l : Launch} {e : Env} {R : Room} {s : State} {m : MethodId} {args : Array Value} {below : List Frame} {meth : Method} {c : Code} {H H0 : Heap} {locs : List Loc} {cells slots : Nat} {Q : State → Prop}
variable {cc : ByteArray} {pc nL n : Nat} {ls : Array Slot} {rest : List Value} {own : String} {G : Gm} {X : Nat → va_E}
theorem cx_new (C : Cy p s m args c cc nL own G) (hX : PX G n X H) (hS : va_S (AB G) H0 H locs) {ci ix : Nat} {r : vw_C} (hc : sc_cl[ci]? = some r) (h1 : Cond.classLink own ix r.1 ∈ gw) (h2 : Cond.instantiable r.1 r.2.2 ∈ gw) (h3 : Cond.initialized r.1 ∈ gw) {fs : List Value} (hfs : ∀ j, j < r.2.2 → defaultValue (tyc ci j) = vp_V fs j) (hcells : cells + 1 ≤ R.cells) (hslots : slots + r.2.2 ≤ R.slots) (hdg : decode cc pc = .ok (.new ix, 3))
    (kk : ∀ H : Heap, PX G (n + 1) (ux X n (.inr (ci, fs))) H → va_S (AB G) H0 H locs → W p l e R s m args below meth c H locs (cells + 1) (slots + r.2.2) Q (F0 m (pc + 3) ls (.ref (G.2.2 n) :: rest))) : W p l e R s m args below meth c H locs cells slots Q (F0 m pc ls rest) := by
  obtain ⟨⟨hx, hb, -, hown, hg, hK, -, -⟩, hA, -⟩ := C
  have hKn := hK.1 ci _ hc
  obtain ⟨C0, T0, N0⟩ := r
  refine W.newcK hx hb hown (hg _ h1) (hg _ h2) (hg _ h3) rfl hdg hcells hslots hKn.2.1 hX.1 fun H1 kC hkC e1 z1 o1 => ?_
  rw [← hX.1] at z1 o1
  refine kk H1 (hX.push hA z1 o1 ?_) (AB.new hA hX (by omega) o1 hS)
  exact ⟨_, hc, (u_born (tyc ci) hg (cl_in hc) hKn hkC e1 (cl_ty hc)).to hfs⟩
/-- behind a store into a cell -/
theorem PX.put {o : Nat} {e1 : va_E} {H1 : Heap} {k : Nat} (hA : Ad G) (hX : PX G n X H) (hS : va_S (AB G) H0 H locs) (ho : o < n) (hz : H1.size = H.size) (hq : ∀ q : Nat, q ≠ G.2.2 o → H1[q]? = H[q]?) (he : va_at G.1 sc_cl (G.2.2 o, e1) H1) : PX G n (ux X o e1) H1 ∧ va_S (AB G) H0 H1 (locs ++ [⟨G.2.2 o, k⟩]) := by
  refine ⟨⟨by rw [hz]; exact hX.1, ?_⟩, hS.put hz hq ((wx_D hA).2 o _ (wx_at (X := X) ho))⟩
  rw [← wx_set ho]
  exact hX.2.set (wx_D hA) (wx_at ho) he hq
theorem cx_put (C : Cy p s m args c cc nL own G) (hX : PX G n X H) (hS : va_S (AB G) H0 H locs) {o ci ix : Nat} {r : vw_C} {fs : List Value} (ho : o < n) (hXo : X o = .inr (ci, fs)) (hc : sc_cl[ci]? = some r) (k : Nat) (hk : k < r.2.2) (hl : k < fs.length) (hd : (r.2.1 k).1 = r.1) (hlk : Cond.fieldLink own ix r.1 (r.2.1 k).2.1 (r.2.1 k).2.2.1 ∈ gw) {v : Value} (hn : narrow (tyc ci k) v = v) (hfit : fits (tyc ci k) v = true) (hfin : (r.2.1 k).2.2.2 = false ∨ ((r.2.1 k).2.2.2 = true ∧ meth.name = "<init>" ∧ (r.2.1 k).1 = own)) (hdg : decode cc pc = .ok (.putfield ix, 3))
    (kk : ∀ (H : Heap) (locs : List Loc), PX G n (ux X o (.inr (ci, fs.set k v))) H → va_S (AB G) H0 H locs → W p l e R s m args below meth c H locs cells slots Q (F0 m (pc + 3) ls rest)) : W p l e R s m args below meth c H locs cells slots Q (F0 m pc ls (v :: .ref (G.2.2 o) :: rest)) := by
  obtain ⟨⟨hx, hb, -, hown, hg, hK, -, -⟩, hA, -⟩ := C
  obtain ⟨C0, T0, N0⟩ := r
  have hap := va_apart (own := own) hg (cl_in hc) (tyc ci) (cl_ty hc) (cl_nm hc) hK hc
  have hXo' := hX.2 o _ (wx_at ho)
  rw [hXo] at hXo'
  obtain ⟨r, h1, cell, q1, q2, q3, q4⟩ := hXo'
  have hr : r = (C0, T0, N0) := Option.some.inj (h1.symm.trans hc)
  subst hr
  obtain ⟨hSl, hfc, kC, hkC, hkind⟩ := hK.1 ci _ hc
  obtain ⟨cf, kf, fi, f, hi, hsl⟩ := hSl k hk
  have hlay := hg _ (cl_in hc _ (u_in_lay hk))
  have hst := (u_facts hfc hkC (u_lays hg (cl_in hc) hk) hi).1
  have hsame : ∀ x, s.fieldFound? (T0 k).1 (T0 k).2.1 (T0 k).2.2.1 = some x → s.fieldFound? C0 (T0 k).2.1 (T0 k).2.2.1 = some x := fun _ h => by rw [← show (T0 k).1 = C0 from hd]; exact h
  have go : ∀ H' : Heap, H'[G.2.2 o]? = some (cell.setSlot f.slot v) → H'.size = H.size → (∀ q : Nat, q ≠ G.2.2 o → H'[q]? = H[q]?) → W p l e R s m args below meth c H' (locs ++ [⟨G.2.2 o, f.slot⟩]) cells slots Q (F0 m (pc + 3) ls rest) := fun H' e1 e2 e3 => by
    rw [hsl] at e1 ⊢
    obtain ⟨a1, a2⟩ := PX.put (k := G.1.2 ci k) hA hX hS ho e2 e3 (e1 := .inr (ci, fs.set k v)) ⟨_, hc, t_OB.to (V := updV (vp_V fs) k v) ⟨_, e1, q2, q3, t_set q4 hap hk v⟩ (fun j _ => vp_updV_set hl v j)⟩
    exact kk H' _ a1 a2
  unfold u_lay at hlay
  rcases hfin with hfin | ⟨hfin, hin2, hdecl⟩
  · rw [if_neg (by rw [hfin]; decide)] at hlay
    have h6 := u_store hfc hkC hkind hlay hi (cl_ty hc k hk) hn hfit
    exact W.putK hx hb (f := f) ⟨hown, hg _ hlk, ⟨_, _, _, hsame _ hi⟩, hst⟩ (by rw [q2]; exact h6) q1 q3 (by rw [hsl]; exact k2_hasslot (q4 k hk)) rfl rfl hdg go
  · rw [if_pos hfin] at hlay
    have hcf : m.cls = cf := by
      obtain ⟨_, _, c', _, _, _, -, -, hf', -, -, -, hown2, -⟩ := Cond.laysFinal_spec hlay
      have e1 : c' = cf := by have := hi.symm.trans hf'; simp at this; exact this.1.symm
      rw [hdecl] at hown2
      rw [← e1]; exact Option.some.inj (hown.symm.trans hown2)
    have h6 := u_fits hfc hkC hkind (Or.inr hlay) hi (cl_ty hc k hk) hn hfit
    exact W.putFinK hx hb hown (hg _ hlk) (hsame _ hi) hst hcf hin2 (by rw [q2]; exact h6) q1 q3 (by rw [hsl]; exact k2_hasslot (q4 k hk)) rfl rfl hdg go
theorem cx_get (C : Cy p s m args c cc nL own G) (hX : PX G n X H) {o ci ix : Nat} {r : vw_C} {fs : List Value} (ho : o < n) (hXo : X o = .inr (ci, fs)) (hc : sc_cl[ci]? = some r) (k : Nat) (hk : k < r.2.2) (hd : (r.2.1 k).1 = r.1) (hlk : Cond.fieldLink own ix r.1 (r.2.1 k).2.1 (r.2.1 k).2.2.1 ∈ gw) {v : Value} (hv : fs[k]? = some v) (hdg : decode cc pc = .ok (.getfield ix, 3))
    (kk : W p l e R s m args below meth c H locs cells slots Q (F0 m (pc + 3) ls (v :: rest))) : W p l e R s m args below meth c H locs cells slots Q (F0 m pc ls (.ref (G.2.2 o) :: rest)) := by
  obtain ⟨⟨hx, hb, -, hown, hg, hK, -, -⟩, hA, -⟩ := C
  obtain ⟨C0, T0, N0⟩ := r
  exact va_get (D := G.1) (C := C0) (T := T0) (N := N0) hx hb hg (cl_in hc) hown hK hX.2 o (by rw [wx_at ho, hXo]) hc k hk (hg _ hlk) (fun _ h => by rw [← show (T0 k).1 = C0 from hd]; exact h) hv hdg kk
/-- newarray: ints or booleans -/
theorem cx_newi (C : Cy p s m args c cc nL own G) (hX : PX G n X H) (hS : va_S (AB G) H0 H locs) {k : Int32} {N : Nat} (hn : ¬ k < 0) (hN : k.toNatClampNeg = N) (hbytes : N * 4 ≤ 536870912) (hcells : cells + 1 ≤ R.cells) (hslots : slots + N ≤ R.slots) (hdg : decode cc pc = .ok (.newarray .int, 2))
    (kk : ∀ H : Heap, PX G (n + 1) (ux X n (.inl (G.2.1 0, N, .inl (fun _ => 0)))) H → va_S (AB G) H0 H locs → W p l e R s m args below meth c H locs (cells + 1) (slots + N) Q (F0 m (pc + 2) ls (.ref (G.2.2 n) :: rest))) : W p l e R s m args below meth c H locs cells slots Q (F0 m pc ls (.int k :: rest)) := by
  obtain ⟨⟨hx, hb, -, hown, hg, hK, -, -⟩, hA, -⟩ := C
  refine va_newaK (atype := .int) hx hb (hg _ q_45) rfl hdg rfl hn hN hbytes hcells hslots hX.1 fun H1 cA e1 z1 o1 hAr hNm => ?_
  have hcA : cA = G.2.1 0 := Option.some.inj (hNm.symm.trans (hK.2 0 (G.2.1 0, .int) rfl).2)
  subst hcA
  rw [← hX.1] at z1 o1
  exact kk H1 (hX.push hA z1 o1 e1) (AB.new hA hX (by omega) o1 hS)
theorem cx_newz (C : Cy p s m args c cc nL own G) (hX : PX G n X H) (hS : va_S (AB G) H0 H locs) {k : Int32} {N : Nat} (hn : ¬ k < 0) (hN : k.toNatClampNeg = N) (hbytes : N * 1 ≤ 536870912) (hcells : cells + 1 ≤ R.cells) (hslots : slots + N ≤ R.slots) (hdg : decode cc pc = .ok (.newarray .boolean, 2))
    (kk : ∀ H : Heap, PX G (n + 1) (ux X n (.inl (G.2.1 1, N, .inl (fun _ => 0)))) H → va_S (AB G) H0 H locs → W p l e R s m args below meth c H locs (cells + 1) (slots + N) Q (F0 m (pc + 2) ls (.ref (G.2.2 n) :: rest))) : W p l e R s m args below meth c H locs cells slots Q (F0 m pc ls (.int k :: rest)) := by
  obtain ⟨⟨hx, hb, -, hown, hg, hK, -, -⟩, hA, -⟩ := C
  refine va_newaK (atype := .boolean) hx hb (hg _ q_864) rfl hdg rfl hn hN hbytes hcells hslots hX.1 fun H1 cA e1 z1 o1 hAr hNm => ?_
  have hcA : cA = G.2.1 1 := Option.some.inj (hNm.symm.trans (hK.2 1 (G.2.1 1, .boolean) rfl).2)
  subst hcA
  rw [← hX.1] at z1 o1
  exact kk H1 (hX.push hA z1 o1 e1) (AB.new hA hX (by omega) o1 hS)
theorem cx_newl (C : Cy p s m args c cc nL own G) (hX : PX G n X H) (hS : va_S (AB G) H0 H locs) {k : Int32} {N : Nat} (hn : ¬ k < 0) (hN : k.toNatClampNeg = N) (hbytes : N * 8 ≤ 536870912) (hcells : cells + 1 ≤ R.cells) (hslots : slots + N ≤ R.slots) (hdg : decode cc pc = .ok (.newarray .long, 2))
    (kk : ∀ H : Heap, PX G (n + 1) (ux X n (.inl (G.2.1 4, N, .inr (.inl (fun _ => 0))))) H → va_S (AB G) H0 H locs → W p l e R s m args below meth c H locs (cells + 1) (slots + N) Q (F0 m (pc + 2) ls (.ref (G.2.2 n) :: rest))) : W p l e R s m args below meth c H locs cells slots Q (F0 m pc ls (.int k :: rest)) := by
  obtain ⟨⟨hx, hb, -, hown, hg, hK, -, -⟩, hA, -⟩ := C
  refine va_newaK (atype := .long) hx hb (hg _ q_1014) rfl hdg rfl hn hN hbytes hcells hslots hX.1 fun H1 cA e1 z1 o1 hAr hNm => ?_
  have hcA : cA = G.2.1 4 := Option.some.inj (hNm.symm.trans (hK.2 4 (G.2.1 4, .long) rfl).2)
  subst hcA
  rw [← hX.1] at z1 o1
  exact kk H1 (hX.push hA z1 o1 e1) (AB.new hA hX (by omega) o1 hS)
end CYS
