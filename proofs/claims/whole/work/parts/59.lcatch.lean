/-! the law's read, head, share: they catch -/
abbrev Ml (l : Launch) (y : MethodName) (cc : ByteArray) (nL : Nat) (hh : List (Nat × Nat × Nat × Nat)) (fr sl lo : Nat) (G : Gm) (sa : Nat × Nat × Nat × Nat) (av : List Value) (T : St) (post : Int32 → St → Prop) : Prop :=
  Met l y (.codeWith y cc nL (some .int) hh :: gw) { frames := fr, cells := 1, slots := sl, locals := lo } (va_Pc av (SZ G sa T)) (va_Qi post (Sy G) (SA G)) 1 sl (SA G)
theorem ml_head {l : Launch} {y : MethodName} {cc : ByteArray} {nL : Nat} {hh : List (Nat × Nat × Nat × Nat)} {fr sl lo : Nat} {G : Gm} {sa : Nat × Nat × Nat × Nat} {av : List Value} {T : St} {post : Int32 → St → Prop} {lv : List (Nat × Value)} (hi : Inj G) (hy : plainName y.cls = true) (hlen : (lg_sl av).length ≤ nL) (hlv : lv_args 0 av = lv)
    (body : ∀ (p : Program) (e : Env) (s : State) (m : MethodId) (below : List Frame) (meth : Method) (c : Code), Cx p s m av.toArray c cc nL y.cls G → meth.sig.returnType = some .int → meth.locks = false → va_P G.1 sc_cl (wd G T) s.heap → va_S (SA G) s.heap s.heap [] → XW sa s → ZW (SA G) s s.heap → c.exceptionTable.toList = tableOf hh → ∀ ls : Array Slot, lv_has ls nL lv →
      W p l e { frames := fr, cells := 1, slots := sl, locals := lo } s m av.toArray below meth c s.heap [] 0 0 (MQ below (va_Qi post (Sy G) (SA G)) av.toArray s 1 sl (SA G)) (F0 m 0 ls [])) : Ml l y cc nL hh fr sl lo G sa av T post := by
  refine va_MetW (cc := cc) (maxL := nL) (ret := some .int) (hh := hh) hy rfl ?_
  intro p e s m args below meth c s₁ B hml hv
  obtain ⟨rfl, ⟨hP, hK, hN⟩, hX, hZ⟩ := hv
  have hts := atoms_spec (ws := .codeWith y cc nL (some .int) hh :: gw) B.pre
  have htab := vx_table (x := y) B (hts _ List.mem_cons_self)
  rw [lg_entry_eq]
  subst hlv
  exact body p e s m below meth c ⟨B.exec, B.bytes, hml, findClass_of_methodNamed B.named, fun w hw => hts w (List.mem_cons_of_mem _ hw), hK, hN, hi⟩ B.returns B.notSynchronized hP va_S.rf hX hZ htab _ (lv_entry av hlen)
section MLR
variable {p : Program} {l : Launch} {e : Env} {R : Room} {s : State} {m : MethodId} {args : Array Value} {below : List Frame} {meth : Method} {c : Code} {H H0 : Heap} {locs : List Loc} {cells slots : Nat} {Q : State → Prop} {A : Nat → Prop}
variable {cc : ByteArray} {pc nL sl : Nat} {ls : Array Slot} {rest st0 As : List Value} {own : String} {G : Gm} {T : St} {sa : Nat × Nat × Nat × Nat}
theorem ml_iret {post : Int32 → St → Prop} {v : Int32} (C : Cx p s m args c cc nL own G) (hr : meth.sig.returnType = some .int) (hlocks : meth.locks = false) (hP : va_P G.1 sc_cl (wd G T) H) (hS : va_S (SA G) s.heap H locs) (hp : post v T) (hdg : decode cc pc = .ok (.ireturn, 1)) : W p l e R s m args below meth c H locs cells slots (MQ below (va_Qi post (Sy G) (SA G)) args s cells slots (SA G)) (F0 m pc ls [.int v]) :=
  W.iret C.1 C.2.1 hr (fun t ht hW => ⟨⟨v, T, rfl, hp, Sy.to hP C.2.2.2.2.2.1 C.2.2.2.2.2.2.1 ht hW⟩, hS.F ht⟩) hS.2.2 hdg hlocks
theorem ml_run {y : MethodName} {yc : ByteArray} {yn fr lo n ix : Nat} {post : Int32 → St → Prop} {px : String → St → Prop} (C : Cx p s m args c cc nL own G) (hX : XW sa s) (hZ : ZW (SA G) s s.heap) (hP : va_P G.1 sc_cl (wd G T) H) (hS : va_S (SA G) s.heap H locs) (hM : Mx l y yc yn fr sl lo G sa (.ref (G.2.2 0) :: As) T post px) (mw : MW y yc yn (some .int) n) (h1 : Cond.instanceMethod y ∈ gw) (h2 : Cond.selects RX6 y y ∈ gw) (hl : Cond.methodLink own ix y ∈ gw)
    (hn : As.length = n) (hsize : ls.size = nL) (hst : st0 = As.reverse ++ .ref (G.2.2 0) :: rest) (hW : (rest.map fun v => v.category).sum ≤ 8) (hR : fr + 1 ≤ R.frames ∧ 8 + (yn + 11) + lo ≤ R.locals) (hdg : decode cc pc = .ok (.invokevirtual ix, 3)) (hf : cells + 1 ≤ R.cells ∧ slots + sl ≤ R.slots)
    (kx : ∀ (E : String) (ce : Cell) (q9 : Addr) (T' : St) (H : Heap) (locs : List Loc), px E T' → va_P G.1 sc_cl (wd G T') H → va_S (SA G) s.heap H locs → H[q9]? = some ce → ce.vm = .none → s.vm.findClass E = some ce.cls → vx_W p l e R s m args below meth c H locs (cells + 1) (slots + sl) Q (F0 m pc ls rest) q9)
    (kk : ∀ (r : Int32) (T' : St) (H : Heap) (locs : List Loc), post r T' → va_P G.1 sc_cl (wd G T') H → va_S (SA G) s.heap H locs → W p l e R s m args below meth c H locs (cells + 1) (slots + sl) Q (F0 m (pc + 3) ls (.int r :: rest))) : W p l e R s m args below meth c H locs cells slots Q (F0 m pc ls st0) := by
  obtain ⟨hx, hb, hml, hown, hg, hK, hN, hi⟩ := id C
  refine vx_calli (A1 := SA G) (AX := SA G) (vx_runV (C := RX6) (Ts := gw) ⟨hx, hb, hml, hown, hg⟩ hM ⟨callB_of n hg (gw_in (fun _ h => h) mw.1) rfl rfl rfl (hg _ mw.2.1) (hg _ hl) mw.2.2 hR, hg _ h1, hg _ h2⟩ ⟨SZ.blind, va_recv hK hP (ci := 6) (q0 := 0) rfl (by rw [wd_at G T (o := 0) (c := 6) rfl (by omega), pi_obj (by omega)]), fun U hU hW => ⟨rfl, Sy.to hP hK hN hU hW, XW.warm hW hX, by rw [hU]; exact (hZ.kept hS.2.1).moved hW.alike⟩⟩ rfl hn hsize hst (lv_room hW) hdg hf) hS (fun q _ h => h) (fun q h => h) (fun q _ h => h) (fun E ce q9 u t H1 locs1 ht _ hpx hBX _ _ hS1 hc hv hcl => ?_) (fun r u t H1 locs1 ht _ hp hB _ _ hS1 => kk r u H1 locs1 hp (by rw [← ht]; exact hB.1) hS1)
  obtain ⟨rfl, hP1⟩ := hBX
  exact kx u.1 ce q9 u.2 H1 locs1 hpx (by rw [← ht]; exact hP1) hS1 hc hv hcl
end MLR
def wp_L_read (a1 : Int32) (T : St) (post : Int32 → St → Prop) : Prop := wpx_X6_read a1 T (fun r T1 => post 0 (sl T1 151 0 r.toInt64)) (fun E T1 => E = eAI ∧ post 1 T1)
def wp_L_head (a1 a2 : Int32) (T : St) (post : Int32 → St → Prop) : Prop := wpx_X6_head a1 a2 T (fun r T1 => post 0 (sl T1 151 0 r.toInt64)) (fun E T1 => (E = eNP ∧ post 1 T1) ∨ (E = eAI ∧ post 2 T1))
def wp_L_share (T : St) (post : Int32 → St → Prop) : Prop := wpx_X6_share T (fun r T1 => post 0 (sl T1 151 0 r.toInt64)) (fun E T1 => E = eAR ∧ post 1 T1)
theorem l_read (l : Launch) (htr : l.stackTraces = false) (G : Gm) (hi : Inj G) (sa : Nat × Nat × Nat × Nat) (a1 : Int32) (T : St) (post : Int32 → St → Prop) (hw : wp_L_read a1 T post) : Ml l yL_read cL_read 4 [(0, 9, 12, 13)] 8 6 130 G sa [.ref (G.2.2 0), .int a1, .ref (G.2.2 151)] T post := by
  refine ml_head hi (by decide) (Nat.le_of_ble_eq_true rfl) (lv := [(0, .ref (G.2.2 0)), (1, .int a1), (2, .ref (G.2.2 151))]) rfl ?_
  intro p e s m below meth c C hr hlocks hP hS hX hZ htab ls hl
  have C : Cx p s m _ c cL_read 4 RL G := C
  obtain ⟨hx, hb, hml, hown, hg, hK, hN, -⟩ := id C
  refine lv_aload_n hx hb dL_read_0 rfl (lv_at hl 2 rfl) ?_
  refine lv_iconst (v := 0) hx hb dL_read_1 (by decide) ?_
  refine lv_aload_n hx hb dL_read_2 rfl (lv_at hl 0 rfl) ?_
  refine lv_iload_n hx hb dL_read_3 rfl (lv_at hl 1 rfl) ?_
  refine ml_run C hX hZ hP hS (As := [.int a1]) (x_X6_read l htr G hi sa a1 T _ _ hw) ⟨w_669, w_1, by decide, by decide, rfl⟩ w_667 w_668 w_666 rfl hl.1 rfl (Nat.le_of_ble_eq_true rfl) ⟨Nat.le_of_ble_eq_true rfl, Nat.le_of_ble_eq_true rfl⟩ dL_read_4 ⟨Nat.le_of_ble_eq_true rfl, Nat.le_of_ble_eq_true rfl⟩ (fun E ce q9 T1 H locs hpx hP hS hcell hcv hcl => ?_) (fun r T1 H locs hw hP hS => ?_)
  · obtain ⟨rfl, hpost⟩ := hpx
    refine vx_catch (name := eAI) hown [] _ [] (by rw [htab]; rfl) (fun z hz => nomatch hz) rfl (by decide) (hg _ q_580) (va_Nw.use rfl (hX.2.1 (eAI, eAI) (by decide))) hcell hcv hcl ?_
    refine lv_astore_n (lv' := [(3, .ref q9), (0, .ref (G.2.2 0)), (1, .int a1), (2, .ref (G.2.2 151))]) hx hb dL_read_12 rfl hl (by decide) rfl (fun ls hl => ?_)
    refine lv_iconst (v := 1) hx hb dL_read_13 (by decide) ?_
    exact ml_iret C hr hlocks hP hS hpost dL_read_14
  · refine lv_i2l hx hb dL_read_7 rfl ?_
    refine sy_last C hP hS (fun _ h => h) (o := 151) (n := 1) rfl rfl (vin (i := 0) (by omega) (by omega)) dL_read_8 (fun H locs hP hS => ?_)
    refine lv_goto (tgt := 15) hx hb dL_read_9 (by decide) ?_
    refine lv_iconst (v := 0) hx hb dL_read_15 (by decide) ?_
    exact ml_iret C hr hlocks hP hS hw dL_read_16
theorem l_share (l : Launch) (htr : l.stackTraces = false) (G : Gm) (hi : Inj G) (sa : Nat × Nat × Nat × Nat) (T : St) (post : Int32 → St → Prop) (hw : wp_L_share T post) : Ml l yL_share cL_share 3 [(0, 8, 11, 25)] 8 6 130 G sa [.ref (G.2.2 0), .ref (G.2.2 151)] T post := by
  refine ml_head hi (by decide) (Nat.le_of_ble_eq_true rfl) (lv := [(0, .ref (G.2.2 0)), (1, .ref (G.2.2 151))]) rfl ?_
  intro p e s m below meth c C hr hlocks hP hS hX hZ htab ls hl
  have C : Cx p s m _ c cL_share 3 RL G := C
  obtain ⟨hx, hb, hml, hown, hg, hK, hN, -⟩ := id C
  refine lv_aload_n hx hb dL_share_0 rfl (lv_at hl 1 rfl) ?_
  refine lv_iconst (v := 0) hx hb dL_share_1 (by decide) ?_
  refine lv_aload_n hx hb dL_share_2 rfl (lv_at hl 0 rfl) ?_
  refine ml_run C hX hZ hP hS (As := []) (x_X6_share l htr G hi sa T _ _ hw) ⟨w_733, w_1, by decide, by decide, rfl⟩ w_731 w_732 w_730 rfl hl.1 rfl (Nat.le_of_ble_eq_true rfl) ⟨Nat.le_of_ble_eq_true rfl, Nat.le_of_ble_eq_true rfl⟩ dL_share_3 ⟨Nat.le_of_ble_eq_true rfl, Nat.le_of_ble_eq_true rfl⟩ (fun E ce q9 T1 H locs hpx hP hS hcell hcv hcl => ?_) (fun r T1 H locs hw hP hS => ?_)
  · obtain ⟨rfl, hpost⟩ := hpx
    refine vx_catch (name := eAR) hown [] _ [] (by rw [htab]; rfl) (fun z hz => nomatch hz) rfl (by decide) (hg _ q_716) (va_Nw.use rfl (hX.2.1 (eAR, eAR) (by decide))) hcell hcv hcl ?_
    refine lv_astore_n (lv' := [(2, .ref q9), (0, .ref (G.2.2 0)), (1, .ref (G.2.2 151))]) hx hb dL_share_11 rfl hl (by decide) rfl (fun ls hl => ?_)
    refine lv_iconst (v := 1) hx hb dL_share_12 (by decide) ?_
    exact ml_iret C hr hlocks hP hS hpost dL_share_13
  · refine lv_i2l hx hb dL_share_6 rfl ?_
    refine sy_last C hP hS (fun _ h => h) (o := 151) (n := 1) rfl rfl (vin (i := 0) (by omega) (by omega)) dL_share_7 (fun H locs hP hS => ?_)
    refine lv_goto (tgt := 14) hx hb dL_share_8 (by decide) ?_
    refine lv_iconst (v := 0) hx hb dL_share_14 (by decide) ?_
    exact ml_iret C hr hlocks hP hS hw dL_share_15
theorem l_head (l : Launch) (htr : l.stackTraces = false) (G : Gm) (hi : Inj G) (sa : Nat × Nat × Nat × Nat) (a1 a2 : Int32) (T : St) (post : Int32 → St → Prop) (hw : wp_L_head a1 a2 T post) : Ml l yL_head cL_head 5 [(0, 10, 13, 19), (0, 10, 17, 13)] 13 8 10630 G sa [.ref (G.2.2 0), .int a1, .int a2, .ref (G.2.2 151)] T post := by
  refine ml_head hi (by decide) (Nat.le_of_ble_eq_true rfl) (lv := [(0, .ref (G.2.2 0)), (1, .int a1), (2, .int a2), (3, .ref (G.2.2 151))]) rfl ?_
  intro p e s m below meth c C hr hlocks hP hS hX hZ htab ls hl
  have C : Cx p s m _ c cL_head 5 RL G := C
  obtain ⟨hx, hb, hml, hown, hg, hK, hN, -⟩ := id C
  refine lv_aload_n hx hb dL_head_0 rfl (lv_at hl 3 rfl) ?_
  refine lv_iconst (v := 0) hx hb dL_head_1 (by decide) ?_
  refine lv_aload_n hx hb dL_head_2 rfl (lv_at hl 0 rfl) ?_
  refine lv_iload_n hx hb dL_head_3 rfl (lv_at hl 1 rfl) ?_
  refine lv_iload_n hx hb dL_head_4 rfl (lv_at hl 2 rfl) ?_
  refine ml_run C hX hZ hP hS (As := [.int a1, .int a2]) (x_X6_head l htr G hi sa a1 a2 T _ _ hw) ⟨w_705, w_1, by decide, by decide, rfl⟩ w_703 w_704 w_702 rfl hl.1 rfl (Nat.le_of_ble_eq_true rfl) ⟨Nat.le_of_ble_eq_true rfl, Nat.le_of_ble_eq_true rfl⟩ dL_head_5 ⟨Nat.le_of_ble_eq_true rfl, Nat.le_of_ble_eq_true rfl⟩ (fun E ce q9 T1 H locs hpx hP hS hcell hcv hcl => ?_) (fun r T1 H locs hw hP hS => ?_)
  · rcases hpx with ⟨rfl, hpost⟩ | ⟨rfl, hpost⟩
    · refine vx_catch (name := eNP) hown [] _ [⟨0, 10, 17, 13⟩] (by rw [htab]; rfl) (fun z hz => nomatch hz) rfl (by decide) (hg _ q_676) (va_Nw.use rfl (hX.2.1 (eNP, eNP) (by decide))) hcell hcv hcl ?_
      refine lv_astore (lv' := [(4, .ref q9), (0, .ref (G.2.2 0)), (1, .int a1), (2, .int a2), (3, .ref (G.2.2 151))]) hx hb dL_head_13 hl (by decide) rfl (fun ls hl => ?_)
      refine lv_iconst (v := 1) hx hb dL_head_15 (by decide) ?_
      exact ml_iret C hr hlocks hP hS hpost dL_head_16
    · refine vx_catch (name := eAI) hown [⟨0, 10, 13, 19⟩] _ [] (by rw [htab]; rfl) (fun z hz => ?_) rfl (by decide) (hg _ q_580) (va_Nw.use rfl (hX.2.1 (eAI, eAI) (by decide))) hcell hcv hcl ?_
      · rw [List.mem_singleton.mp hz]
        exact Or.inr ⟨by decide, eNP, hg _ q_676, hX.2.2.1⟩
      refine lv_astore (lv' := [(4, .ref q9), (0, .ref (G.2.2 0)), (1, .int a1), (2, .int a2), (3, .ref (G.2.2 151))]) hx hb dL_head_17 hl (by decide) rfl (fun ls hl => ?_)
      refine lv_iconst (v := 2) hx hb dL_head_19 (by decide) ?_
      exact ml_iret C hr hlocks hP hS hpost dL_head_20
  · refine lv_i2l hx hb dL_head_8 rfl ?_
    refine sy_last C hP hS (fun _ h => h) (o := 151) (n := 1) rfl rfl (vin (i := 0) (by omega) (by omega)) dL_head_9 (fun H locs hP hS => ?_)
    refine lv_goto (tgt := 21) hx hb dL_head_10 (by decide) ?_
    refine lv_iconst (v := 0) hx hb dL_head_21 (by decide) ?_
    exact ml_iret C hr hlocks hP hS hw dL_head_22
