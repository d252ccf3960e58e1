/-! SelfChange() -/
def c6 (G : Gm) (fs : List Value) (rf : Nat → Option Nat) : Nat → va_E := fun o => if o = 0 then .inr (6, fs) else if o = 6 then .inl (G.2.1 2, 10, .inr (.inr (.inr (.inr rf)))) else pic G T0 o
def rfr (G : Gm) (r : Nat) : Nat → Option Nat := fun i => if i < r then some (G.2.2 (27 + 9 * i)) else none
theorem c6_put {G : Gm} {n : Nat} {fs fs' : List Value} {rf : Nat → Option Nat} {H : Heap} (hX : PX G n (ux (c6 G fs rf) 0 (.inr (6, fs'))) H) : PX G n (c6 G fs' rf) H := hX.cg (fun o ho => by
  unfold ux c6
  by_cases q : o = 0
  · rw [if_pos q, if_pos q]
  · rw [if_neg q, if_neg q, if_neg q])
theorem c6_ast {G : Gm} {n : Nat} {fs : List Value} {rf rf' : Nat → Option Nat} {H : Heap} (hX : PX G n (ux (c6 G fs rf) 6 (.inl (G.2.1 2, 10, .inr (.inr (.inr (.inr rf')))))) H) : PX G n (c6 G fs rf') H := hX.cg (fun o ho => by
  unfold ux c6
  by_cases q : o = 6
  · rw [if_pos q, if_neg (by omega), if_pos q]
  · rw [if_neg q, if_neg q, if_neg q])
theorem c6_sub {G : Gm} {b k : Nat} {fs : List Value} {rf : Nat → Option Nat} {e : va_E} {H : Heap} (hX : PX G (b + k) (bk G (ux (c6 G fs rf) b e) b k) H) (h1 : 0 < b) (h2 : 6 < b ∨ b + k ≤ 6) (h3 : 0 < k) : PX G (b + k) (c6 G fs rf) H := hX.cg (fun o ho => by
  unfold bk ux c6
  by_cases q : b ≤ o ∧ o < b + k
  · rw [if_pos q, if_neg (by omega), if_neg (by omega)]
  · rw [if_neg q, if_neg (c := o = b) (by omega)])
theorem c6_mna {G : Gm} {fs : List Value} {rf : Nat → Option Nat} {H : Heap} (hX : PX G (18 + 1 + 4) (mx G 18 4 256 (c6 G fs rf)) H) : PX G 23 (c6 G fs rf) H := PX.cg (n := 23) hX (fun o ho => by
  unfold mx c6
  by_cases q : o = 18
  · rw [if_pos q, if_neg (by omega), if_neg (by omega), q]; rfl
  · rw [if_neg q]
    by_cases q1 : 18 < o ∧ o ≤ 18 + 4
    · rw [if_pos q1, if_neg (by omega), if_neg (by omega)]
      rcases (show o = 19 ∨ o = 20 ∨ o = 21 ∨ o = 22 by omega) with rfl | rfl | rfl | rfl <;> rfl
    · rw [if_neg q1])
/-- a course is made -/
theorem c6_co {G : Gm} {h n : Nat} {fs : List Value} {rf : Nat → Option Nat} {e : va_E} {H : Heap} (hk : ko h = 0) (hw : wi h = n) (h1 : 6 < h) (h2 : h < n) (hX : PX G (n + 2) (cw G (ux (c6 G fs rf) h e) h 0 [.ref (G.2.2 (mo h)), .ref (G.2.2 6), .ref (G.2.2 n), .ref (G.2.2 (n + 1)), .int 0, .int 0, .int 0, .int 0, .int 0, .int 0, .int 0, .int 0, .int 0, .int 0, .int 0, .int 0] n (n + 2)) H) : PX G (n + 2) (c6 G fs rf) H := hX.cg (fun o ho => by
  unfold cw ux c6
  by_cases q : o = h
  · rw [if_pos q, if_neg (by omega), if_neg (by omega), q, pc_0 hk, hw]
  · rw [if_neg q, if_neg q]
    by_cases q1 : n ≤ o ∧ o < n + 2
    · rw [if_pos q1, if_neg (by omega), if_neg (by omega)]
    · rw [if_neg q1])
/-- a memory is made while a course waits -/
theorem c6_me {G : Gm} {h : Nat} {fs : List Value} {rf : Nat → Option Nat} {e e' : va_E} {H : Heap} (h1 : 6 < h) (hX : PX G (h + 1 + 2) (bk G (ux (ux (c6 G fs rf) h e) (h + 1) e') (h + 1) 2) H) : PX G (h + 1 + 2) (ux (c6 G fs rf) h e) H := hX.cg (fun o ho => by
  unfold bk ux c6
  by_cases q : h + 1 ≤ o ∧ o < h + 1 + 2
  · rw [if_pos q, if_neg (by omega), if_neg (by omega), if_neg (by omega)]
  · rw [if_neg q, if_neg (c := o = h + 1) (by omega)])
theorem rfr_s {G : Gm} {r : Nat} : va_up (rfr G r) r (some (G.2.2 (27 + 9 * r))) = rfr G (r + 1) := by
  funext i
  unfold va_up rfr
  by_cases q : i = r
  · rw [if_pos q, if_pos (by omega), q]
  · rw [if_neg q]
    by_cases q2 : i < r
    · rw [if_pos q2, if_pos (by omega)]
    · rw [if_neg q2, if_neg (by omega)]
abbrev f27 (G : Gm) : List Value := [.ref (G.2.2 1), .ref (G.2.2 4), .ref (G.2.2 6), .ref (G.2.2 7), .ref (G.2.2 18), .null, .null, .null, .ref (G.2.2 23), .int 0, .int 0, .int 0, .int 0, .int 0, .int 0, .int 0]
theorem ko_rt {r : Nat} (h : r < 10) : ko (27 + 9 * r) = 5 := by
  revert r
  decide
theorem x6_loop {l : Launch} {G : Gm} (hA : Ad G) (hi : Inj G) {p : Program} {e : Env} {s : State} {m : MethodId} {below : List Frame} {meth : Method} {c : Code} {Q : State → Prop} (C : Cy p s m [Value.ref (G.2.2 0)].toArray c cX6_init 2 RX6 G) (hin : meth.name = "<init>")
    (K : ∀ (H : Heap) (locs : List Loc) (ls : Array Slot), PX G 117 (c6 G (f27 G) (rfr G 10)) H → va_S (AB G) s.heap H locs → lv_has ls 2 [(1, .int 10), (0, .ref (G.2.2 0))] → W p l e { frames := 3, cells := 129, slots := 6144, locals := 52 } s m [Value.ref (G.2.2 0)].toArray below meth c H locs 116 5536 Q (F0 m 100 ls [])) :
    ∀ (k r : Nat) (H : Heap) (locs : List Loc) (ls : Array Slot), r + k = 10 → PX G (27 + 9 * r) (c6 G (f27 G) (rfr G r)) H → va_S (AB G) s.heap H locs → lv_has ls 2 [(1, .int (nI r)), (0, .ref (G.2.2 0))] → W p l e { frames := 3, cells := 129, slots := 6144, locals := 52 } s m [Value.ref (G.2.2 0)].toArray below meth c H locs (26 + 9 * r) (3966 + 157 * r) Q (F0 m 75 ls []) := by
  have hx := C.1.1
  have hb := C.1.2.1
  intro k
  induction k with
  | zero =>
    intro r H locs ls hrk hX hS hl
    have : r = 10 := by omega
    subst this
    refine lv_iload_n hx hb dX6_init_75 rfl (lv_at hl 0 rfl) ?_
    refine lv_bipush (v := 10) hx hb dX6_init_76 (by decide) ?_
    refine lv_icmp_ge (tgt := 100) hx hb dX6_init_78 (by decide) (fun _ => K H locs ls hX hS hl) (fun z => absurd (by decide) z)
  | succ k ih =>
    intro r H locs ls hrk hX hS hl
    have hr : r < 10 := by omega
    refine lv_iload_n hx hb dX6_init_75 rfl (lv_at hl 0 rfl) ?_
    refine lv_bipush (v := 10) hx hb dX6_init_76 (by decide) ?_
    refine lv_icmp_ge (tgt := 100) hx hb dX6_init_78 (by decide) (fun z => absurd z (by rw [n_10, leN (by omega) (by omega)]; omega)) (fun _ => ?_)
    refine lv_aload_n hx hb dX6_init_81 rfl (lv_at hl 1 rfl) ?_
    refine cx_get C hX (o := 0) (ci := 6) (fs := f27 G) (by omega) rfl rfl 2 (by decide) rfl w_223 (v := .ref (G.2.2 6)) rfl dX6_init_82 ?_
    refine lv_iload_n hx hb dX6_init_85 rfl (lv_at hl 0 rfl) ?_
    refine cx_new C hX hS (ci := 5) (fs := d5) rfl q_79 q_127 w_6 (by decide) (by show 26 + 9 * r + 1 ≤ 129; omega) (by show 3966 + 157 * r + 5 ≤ 6144; omega) dX6_init_86 (fun H hX hS => ?_)
    refine lv_dup hx hb dX6_init_89 rfl ?_
    refine cx_call C hX hS (As := []) (c_X5 l hA hi (ko_rt hr) ux_k) ⟨w_130, w_6, by decide, by decide, rfl⟩ w_129 w_128 rfl rfl hl.1 rfl (Nat.le_of_ble_eq_true rfl) ⟨Nat.le_of_ble_eq_true rfl, Nat.le_of_ble_eq_true rfl⟩ dX6_init_90 ⟨by show 26 + 9 * r + 1 + 8 ≤ 129; omega, by show 3966 + 157 * r + 5 + 152 ≤ 6144; omega⟩ (fun H locs hX hS => ?_)
    have hX : PX G (27 + 9 * r + 9) (c6 G (f27 G) (rfr G r)) H := c6_sub hX (by omega) (by omega) (by omega)
    refine cx_aast C hX hS (o := 6) (v := 27 + 9 * r) (N := 10) (f := rfr G r) (by omega) (by omega) rfl (by show c6 G (f27 G) (rfr G r) (27 + 9 * r) = _; unfold c6; rw [if_neg (by omega), if_neg (by omega)]; exact pc_5 (ko_rt hr)) (vin hr (by omega)) dX6_init_93 (fun H locs hX hS => ?_)
    rw [cl (by omega), rfr_s] at hX
    have hX := c6_ast hX
    refine lv_iinc (v := nI (r + 1)) (lv' := [(1, .int (nI (r + 1))), (0, .ref (G.2.2 0))]) hx hb dX6_init_94 hl (k := 0) rfl (nI_1 r) (by decide) rfl (fun ls hl => ?_)
    refine lv_goto (tgt := 75) hx hb dX6_init_97 (by decide) ?_
    refine W.widen (k := 26 + 9 * (r + 1)) (n := 3966 + 157 * (r + 1)) (by omega) (by show 3966 + 157 * r + 5 + 152 ≤ _; omega) ?_
    exact ih (r + 1) H locs ls (by omega) hX hS hl
/-- SelfChange() -/
theorem c_X6 (l : Launch) {G : Gm} (hA : Ad G) (hi : Inj G) {X : Nat → va_E} (hXh : X 0 = .inr (6, [.null, .null, .null, .null, .null, .null, .null, .null, .null, .int 0, .int 0, .int 0, .int 0, .int 0, .int 0, .int 0])) : Mc l yX6_init cX6_init 2 3 129 6144 52 G [.ref (G.2.2 0)] 1 X 130 (c6 G [.ref (G.2.2 1), .ref (G.2.2 4), .ref (G.2.2 6), .ref (G.2.2 7), .ref (G.2.2 18), .ref (G.2.2 117), .ref (G.2.2 120), .ref (G.2.2 125), .ref (G.2.2 23), .int 0, .int 0, .int 0, .int 0, .int 0, .int 0, .int 0] (rfr G 10)) := by
  refine cx_head (lv := [(0, .ref (G.2.2 0))]) hA hi (by decide) rfl (Nat.le_of_ble_eq_true rfl) rfl ?_
  intro p e s m below meth c C hr hlocks hin hX hS ls hl
  have hx := C.1.1
  have hb := C.1.2.1
  have hX : PX G 1 (c6 G [.null, .null, .null, .null, .null, .null, .null, .null, .null, .int 0, .int 0, .int 0, .int 0, .int 0, .int 0, .int 0] (fun _ => none)) s.heap := hX.cg (fun o ho => by rw [show o = 0 by omega, hXh]; rfl)
  refine lv_aload_n hx hb dX6_init_0 rfl (lv_at hl 0 rfl) ?_
  refine cx_obj C w_26 hl.1 dX6_init_1 (Nat.le_of_ble_eq_true rfl) (Nat.le_of_ble_eq_true rfl) ?_
  refine lv_aload_n hx hb dX6_init_4 rfl (lv_at hl 0 rfl) ?_
  refine cx_new C hX hS (ci := 1) (fs := [.null, .null]) rfl q_29 q_30 w_2 (by decide) (Nat.le_of_ble_eq_true rfl) (Nat.le_of_ble_eq_true rfl) dX6_init_5 (fun H hX hS => ?_)
  refine lv_dup hx hb dX6_init_8 rfl ?_
  refine cx_call C hX hS (As := []) (h := 1) (c_X1 l hA hi rfl) ⟨w_33, w_2, by decide, by decide, rfl⟩ w_32 w_31 rfl rfl hl.1 rfl (Nat.le_of_ble_eq_true rfl) ⟨Nat.le_of_ble_eq_true rfl, Nat.le_of_ble_eq_true rfl⟩ dX6_init_9 ⟨Nat.le_of_ble_eq_true rfl, Nat.le_of_ble_eq_true rfl⟩ (fun H locs hX hS => ?_)
  have hX : PX G 4 (c6 G [.null, .null, .null, .null, .null, .null, .null, .null, .null, .int 0, .int 0, .int 0, .int 0, .int 0, .int 0, .int 0] (fun _ => none)) H := c6_sub (b := 1) (k := 3) hX (by omega) (by omega) (by omega)
  refine cx_put C hX hS (o := 0) (ci := 6) (by omega) rfl rfl 0 (by decide) (Nat.le_of_ble_eq_true rfl) rfl w_221 rfl rfl (Or.inr ⟨rfl, hin, rfl⟩) dX6_init_12 (fun H locs hX hS => ?_)
  have hX : PX G 4 (c6 G [.ref (G.2.2 1), .null, .null, .null, .null, .null, .null, .null, .null, .int 0, .int 0, .int 0, .int 0, .int 0, .int 0, .int 0] (fun _ => none)) H := c6_put hX
  refine lv_aload_n hx hb dX6_init_15 rfl (lv_at hl 0 rfl) ?_
  refine cx_new C hX hS (ci := 4) (fs := d4) rfl q_46 q_47 w_3 (by decide) (Nat.le_of_ble_eq_true rfl) (Nat.le_of_ble_eq_true rfl) dX6_init_16 (fun H hX hS => ?_)
  refine lv_dup hx hb dX6_init_19 rfl ?_
  refine lv_aload_n hx hb dX6_init_20 rfl (lv_at hl 0 rfl) ?_
  refine cx_get C hX (o := 0) (ci := 6) (fs := [.ref (G.2.2 1), .null, .null, .null, .null, .null, .null, .null, .null, .int 0, .int 0, .int 0, .int 0, .int 0, .int 0, .int 0]) (by omega) rfl rfl 0 (by decide) rfl w_221 (v := .ref (G.2.2 1)) rfl dX6_init_21 ?_
  refine cx_call C hX hS (As := [.ref (G.2.2 1)]) (h := 4) (c_X4 l hA hi rfl rfl) ⟨w_50, w_3, by decide, by decide, rfl⟩ w_49 w_48 rfl rfl hl.1 rfl (Nat.le_of_ble_eq_true rfl) ⟨Nat.le_of_ble_eq_true rfl, Nat.le_of_ble_eq_true rfl⟩ dX6_init_24 ⟨Nat.le_of_ble_eq_true rfl, Nat.le_of_ble_eq_true rfl⟩ (fun H locs hX hS => ?_)
  have hX : PX G 6 (c6 G [.ref (G.2.2 1), .null, .null, .null, .null, .null, .null, .null, .null, .int 0, .int 0, .int 0, .int 0, .int 0, .int 0, .int 0] (fun _ => none)) H := c6_sub (b := 4) (k := 2) hX (by omega) (by omega) (by omega)
  refine cx_put C hX hS (o := 0) (ci := 6) (by omega) rfl rfl 1 (by decide) (Nat.le_of_ble_eq_true rfl) rfl w_222 rfl rfl (Or.inr ⟨rfl, hin, rfl⟩) dX6_init_27 (fun H locs hX hS => ?_)
  have hX : PX G 6 (c6 G [.ref (G.2.2 1), .ref (G.2.2 4), .null, .null, .null, .null, .null, .null, .null, .int 0, .int 0, .int 0, .int 0, .int 0, .int 0, .int 0] (fun _ => none)) H := c6_put hX
  refine lv_aload_n hx hb dX6_init_30 rfl (lv_at hl 0 rfl) ?_
  refine lv_bipush (v := 10) hx hb dX6_init_31 (by decide) ?_
  refine cx_anew C hX hS (N := 10) q_79 (by decide) (by decide) (by decide) (Nat.le_of_ble_eq_true rfl) (Nat.le_of_ble_eq_true rfl) dX6_init_33 (fun H hX hS => ?_)
  have hX : PX G 7 (c6 G [.ref (G.2.2 1), .ref (G.2.2 4), .null, .null, .null, .null, .null, .null, .null, .int 0, .int 0, .int 0, .int 0, .int 0, .int 0, .int 0] (fun _ => none)) H := c6_ast hX
  refine cx_put C hX hS (o := 0) (ci := 6) (by omega) rfl rfl 2 (by decide) (Nat.le_of_ble_eq_true rfl) rfl w_223 rfl rfl (Or.inr ⟨rfl, hin, rfl⟩) dX6_init_36 (fun H locs hX hS => ?_)
  have hX : PX G 7 (c6 G [.ref (G.2.2 1), .ref (G.2.2 4), .ref (G.2.2 6), .null, .null, .null, .null, .null, .null, .int 0, .int 0, .int 0, .int 0, .int 0, .int 0, .int 0] (fun _ => none)) H := c6_put hX
  refine lv_aload_n hx hb dX6_init_39 rfl (lv_at hl 0 rfl) ?_
  refine cx_new C hX hS (ci := 2) (fs := [.null, .int 0, .int 0]) rfl q_81 q_82 w_4 (by decide) (Nat.le_of_ble_eq_true rfl) (Nat.le_of_ble_eq_true rfl) dX6_init_40 (fun H hX hS => ?_)
  refine lv_dup hx hb dX6_init_43 rfl ?_
  refine cx_call C hX hS (As := []) (h := 7) (c_X2 l hA hi rfl) ⟨w_85, w_4, by decide, by decide, rfl⟩ w_84 w_83 rfl rfl hl.1 rfl (Nat.le_of_ble_eq_true rfl) ⟨Nat.le_of_ble_eq_true rfl, Nat.le_of_ble_eq_true rfl⟩ dX6_init_44 ⟨Nat.le_of_ble_eq_true rfl, Nat.le_of_ble_eq_true rfl⟩ (fun H locs hX hS => ?_)
  have hX : PX G 18 (c6 G [.ref (G.2.2 1), .ref (G.2.2 4), .ref (G.2.2 6), .null, .null, .null, .null, .null, .null, .int 0, .int 0, .int 0, .int 0, .int 0, .int 0, .int 0] (fun _ => none)) H := c6_sub (b := 7) (k := 11) hX (by omega) (by omega) (by omega)
  refine cx_put C hX hS (o := 0) (ci := 6) (by omega) rfl rfl 3 (by decide) (Nat.le_of_ble_eq_true rfl) rfl w_224 rfl rfl (Or.inr ⟨rfl, hin, rfl⟩) dX6_init_47 (fun H locs hX hS => ?_)
  have hX : PX G 18 (c6 G [.ref (G.2.2 1), .ref (G.2.2 4), .ref (G.2.2 6), .ref (G.2.2 7), .null, .null, .null, .null, .null, .int 0, .int 0, .int 0, .int 0, .int 0, .int 0, .int 0] (fun _ => none)) H := c6_put hX
  refine lv_aload_n hx hb dX6_init_50 rfl (lv_at hl 0 rfl) ?_
  refine lv_iconst (v := 4) hx hb dX6_init_51 (by decide) ?_
  refine lv_sipush (v := 256) hx hb dX6_init_52 (by decide) ?_
  refine cx_mna C hX hS (N := 4) (K := 256) q_100 (by decide) (by decide) (by decide) (by decide) (by decide) (by decide) (Nat.le_of_ble_eq_true rfl) (Nat.le_of_ble_eq_true rfl) dX6_init_55 (fun H hX hS => ?_)
  have hX := c6_mna hX
  refine cx_put C hX hS (o := 0) (ci := 6) (by omega) rfl rfl 4 (by decide) (Nat.le_of_ble_eq_true rfl) rfl w_225 rfl rfl (Or.inr ⟨rfl, hin, rfl⟩) dX6_init_59 (fun H locs hX hS => ?_)
  have hX : PX G 23 (c6 G [.ref (G.2.2 1), .ref (G.2.2 4), .ref (G.2.2 6), .ref (G.2.2 7), .ref (G.2.2 18), .null, .null, .null, .null, .int 0, .int 0, .int 0, .int 0, .int 0, .int 0, .int 0] (fun _ => none)) H := c6_put hX
  refine lv_aload_n hx hb dX6_init_62 rfl (lv_at hl 0 rfl) ?_
  refine cx_new C hX hS (ci := 3) (fs := d3) rfl q_101 q_102 w_5 (by decide) (Nat.le_of_ble_eq_true rfl) (Nat.le_of_ble_eq_true rfl) dX6_init_63 (fun H hX hS => ?_)
  refine lv_dup hx hb dX6_init_66 rfl ?_
  refine cx_call C hX hS (As := []) (h := 23) (c_X3 l hA hi (h := 23) rfl rfl) ⟨w_105, w_5, by decide, by decide, rfl⟩ w_104 w_103 rfl rfl hl.1 rfl (Nat.le_of_ble_eq_true rfl) ⟨Nat.le_of_ble_eq_true rfl, Nat.le_of_ble_eq_true rfl⟩ dX6_init_67 ⟨Nat.le_of_ble_eq_true rfl, Nat.le_of_ble_eq_true rfl⟩ (fun H locs hX hS => ?_)
  have hX : PX G 27 (c6 G [.ref (G.2.2 1), .ref (G.2.2 4), .ref (G.2.2 6), .ref (G.2.2 7), .ref (G.2.2 18), .null, .null, .null, .null, .int 0, .int 0, .int 0, .int 0, .int 0, .int 0, .int 0] (fun _ => none)) H := c6_sub (b := 23) (k := 4) hX (by omega) (by omega) (by omega)
  refine cx_put C hX hS (o := 0) (ci := 6) (by omega) rfl rfl 8 (by decide) (Nat.le_of_ble_eq_true rfl) rfl w_229 rfl rfl (Or.inr ⟨rfl, hin, rfl⟩) dX6_init_70 (fun H locs hX hS => ?_)
  have hX : PX G 27 (c6 G [.ref (G.2.2 1), .ref (G.2.2 4), .ref (G.2.2 6), .ref (G.2.2 7), .ref (G.2.2 18), .null, .null, .null, .ref (G.2.2 23), .int 0, .int 0, .int 0, .int 0, .int 0, .int 0, .int 0] (fun _ => none)) H := c6_put hX
  refine lv_iconst (v := 0) hx hb dX6_init_73 (by decide) ?_
  refine lv_istore_n (lv' := [(1, .int 0), (0, .ref (G.2.2 0))]) hx hb dX6_init_74 rfl hl (by decide) rfl (fun ls hl => ?_)
  refine W.widen (k := 26 + 9 * 0) (n := 3966 + 157 * 0) (Nat.le_of_ble_eq_true rfl) (Nat.le_of_ble_eq_true rfl) ?_
  refine x6_loop hA hi C hin ?_ 10 0 H locs ls rfl (hX.cg (fun o ho => rfl)) hS hl
  intro H locs ls hX hS hl
  refine lv_aload_n hx hb dX6_init_100 rfl (lv_at hl 1 rfl) ?_
  refine cx_new C hX hS (ci := 0) (fs := d0) rfl q_156 q_157 w_7 (by decide) (Nat.le_of_ble_eq_true rfl) (Nat.le_of_ble_eq_true rfl) dX6_init_101 (fun H hX hS => ?_)
  refine lv_dup hx hb dX6_init_104 rfl ?_
  refine lv_aload_n hx hb dX6_init_105 rfl (lv_at hl 1 rfl) ?_
  refine cx_get C hX (o := 0) (ci := 6) (fs := f27 G) (by omega) rfl rfl 1 (by decide) rfl w_222 (v := .ref (G.2.2 4)) rfl dX6_init_106 ?_
  refine lv_aload_n hx hb dX6_init_109 rfl (lv_at hl 1 rfl) ?_
  refine cx_get C hX (o := 0) (ci := 6) (fs := f27 G) (by omega) rfl rfl 2 (by decide) rfl w_223 (v := .ref (G.2.2 6)) rfl dX6_init_110 ?_
  refine cx_call C hX hS (As := [.ref (G.2.2 4), .ref (G.2.2 6)]) (h := 117) (c_X0 l hA hi (h := 117) (n := 118) rfl rfl (by omega) rfl) ⟨w_160, w_7, by decide, by decide, rfl⟩ w_159 w_158 rfl rfl hl.1 rfl (Nat.le_of_ble_eq_true rfl) ⟨Nat.le_of_ble_eq_true rfl, Nat.le_of_ble_eq_true rfl⟩ dX6_init_113 ⟨Nat.le_of_ble_eq_true rfl, Nat.le_of_ble_eq_true rfl⟩ (fun H locs hX hS => ?_)
  have hX : PX G 120 (c6 G (f27 G) (rfr G 10)) H := c6_co (h := 117) (n := 118) rfl rfl (by omega) (by omega) hX
  refine cx_put C hX hS (o := 0) (ci := 6) (by omega) rfl rfl 5 (by decide) (Nat.le_of_ble_eq_true rfl) rfl w_226 rfl rfl (Or.inr ⟨rfl, hin, rfl⟩) dX6_init_116 (fun H locs hX hS => ?_)
  have hX : PX G 120 (c6 G [.ref (G.2.2 1), .ref (G.2.2 4), .ref (G.2.2 6), .ref (G.2.2 7), .ref (G.2.2 18), .ref (G.2.2 117), .null, .null, .ref (G.2.2 23), .int 0, .int 0, .int 0, .int 0, .int 0, .int 0, .int 0] (rfr G 10)) H := c6_put hX
  refine lv_aload_n hx hb dX6_init_119 rfl (lv_at hl 1 rfl) ?_
  refine cx_new C hX hS (ci := 0) (fs := d0) rfl q_156 q_157 w_7 (by decide) (Nat.le_of_ble_eq_true rfl) (Nat.le_of_ble_eq_true rfl) dX6_init_120 (fun H hX hS => ?_)
  refine lv_dup hx hb dX6_init_123 rfl ?_
  refine cx_new C hX hS (ci := 4) (fs := d4) rfl q_46 q_47 w_3 (by decide) (Nat.le_of_ble_eq_true rfl) (Nat.le_of_ble_eq_true rfl) dX6_init_124 (fun H hX hS => ?_)
  refine lv_dup hx hb dX6_init_127 rfl ?_
  refine lv_aload_n hx hb dX6_init_128 rfl (lv_at hl 1 rfl) ?_
  refine cx_get C hX (o := 0) (ci := 6) (fs := [.ref (G.2.2 1), .ref (G.2.2 4), .ref (G.2.2 6), .ref (G.2.2 7), .ref (G.2.2 18), .ref (G.2.2 117), .null, .null, .ref (G.2.2 23), .int 0, .int 0, .int 0, .int 0, .int 0, .int 0, .int 0]) (by omega) rfl rfl 0 (by decide) rfl w_221 (v := .ref (G.2.2 1)) rfl dX6_init_129 ?_
  refine cx_call C hX hS (As := [.ref (G.2.2 1)]) (h := 121) (c_X4 l hA hi (h := 121) rfl rfl) ⟨w_50, w_3, by decide, by decide, rfl⟩ w_49 w_48 rfl rfl hl.1 rfl (Nat.le_of_ble_eq_true rfl) ⟨Nat.le_of_ble_eq_true rfl, Nat.le_of_ble_eq_true rfl⟩ dX6_init_132 ⟨Nat.le_of_ble_eq_true rfl, Nat.le_of_ble_eq_true rfl⟩ (fun H locs hX hS => ?_)
  have hX : PX G 123 (ux (c6 G [.ref (G.2.2 1), .ref (G.2.2 4), .ref (G.2.2 6), .ref (G.2.2 7), .ref (G.2.2 18), .ref (G.2.2 117), .null, .null, .ref (G.2.2 23), .int 0, .int 0, .int 0, .int 0, .int 0, .int 0, .int 0] (rfr G 10)) 120 (.inr (0, d0))) H := c6_me (h := 120) (by omega) hX
  refine lv_aload_n hx hb dX6_init_135 rfl (lv_at hl 1 rfl) ?_
  refine cx_get C hX (o := 0) (ci := 6) (fs := [.ref (G.2.2 1), .ref (G.2.2 4), .ref (G.2.2 6), .ref (G.2.2 7), .ref (G.2.2 18), .ref (G.2.2 117), .null, .null, .ref (G.2.2 23), .int 0, .int 0, .int 0, .int 0, .int 0, .int 0, .int 0]) (by omega) rfl rfl 2 (by decide) rfl w_223 (v := .ref (G.2.2 6)) rfl dX6_init_136 ?_
  refine cx_call C hX hS (As := [.ref (G.2.2 121), .ref (G.2.2 6)]) (h := 120) (c_X0 l hA hi (h := 120) (n := 123) rfl rfl (by omega) rfl) ⟨w_160, w_7, by decide, by decide, rfl⟩ w_159 w_158 rfl rfl hl.1 rfl (Nat.le_of_ble_eq_true rfl) ⟨Nat.le_of_ble_eq_true rfl, Nat.le_of_ble_eq_true rfl⟩ dX6_init_139 ⟨Nat.le_of_ble_eq_true rfl, Nat.le_of_ble_eq_true rfl⟩ (fun H locs hX hS => ?_)
  have hX : PX G 125 (c6 G [.ref (G.2.2 1), .ref (G.2.2 4), .ref (G.2.2 6), .ref (G.2.2 7), .ref (G.2.2 18), .ref (G.2.2 117), .null, .null, .ref (G.2.2 23), .int 0, .int 0, .int 0, .int 0, .int 0, .int 0, .int 0] (rfr G 10)) H := c6_co (h := 120) (n := 123) rfl rfl (by omega) (by omega) hX
  refine cx_put C hX hS (o := 0) (ci := 6) (by omega) rfl rfl 6 (by decide) (Nat.le_of_ble_eq_true rfl) rfl w_227 rfl rfl (Or.inr ⟨rfl, hin, rfl⟩) dX6_init_142 (fun H locs hX hS => ?_)
  have hX : PX G 125 (c6 G [.ref (G.2.2 1), .ref (G.2.2 4), .ref (G.2.2 6), .ref (G.2.2 7), .ref (G.2.2 18), .ref (G.2.2 117), .ref (G.2.2 120), .null, .ref (G.2.2 23), .int 0, .int 0, .int 0, .int 0, .int 0, .int 0, .int 0] (rfr G 10)) H := c6_put hX
  refine lv_aload_n hx hb dX6_init_145 rfl (lv_at hl 1 rfl) ?_
  refine cx_new C hX hS (ci := 0) (fs := d0) rfl q_156 q_157 w_7 (by decide) (Nat.le_of_ble_eq_true rfl) (Nat.le_of_ble_eq_true rfl) dX6_init_146 (fun H hX hS => ?_)
  refine lv_dup hx hb dX6_init_149 rfl ?_
  refine cx_new C hX hS (ci := 4) (fs := d4) rfl q_46 q_47 w_3 (by decide) (Nat.le_of_ble_eq_true rfl) (Nat.le_of_ble_eq_true rfl) dX6_init_150 (fun H hX hS => ?_)
  refine lv_dup hx hb dX6_init_153 rfl ?_
  refine lv_aload_n hx hb dX6_init_154 rfl (lv_at hl 1 rfl) ?_
  refine cx_get C hX (o := 0) (ci := 6) (fs := [.ref (G.2.2 1), .ref (G.2.2 4), .ref (G.2.2 6), .ref (G.2.2 7), .ref (G.2.2 18), .ref (G.2.2 117), .ref (G.2.2 120), .null, .ref (G.2.2 23), .int 0, .int 0, .int 0, .int 0, .int 0, .int 0, .int 0]) (by omega) rfl rfl 0 (by decide) rfl w_221 (v := .ref (G.2.2 1)) rfl dX6_init_155 ?_
  refine cx_call C hX hS (As := [.ref (G.2.2 1)]) (h := 126) (c_X4 l hA hi (h := 126) rfl rfl) ⟨w_50, w_3, by decide, by decide, rfl⟩ w_49 w_48 rfl rfl hl.1 rfl (Nat.le_of_ble_eq_true rfl) ⟨Nat.le_of_ble_eq_true rfl, Nat.le_of_ble_eq_true rfl⟩ dX6_init_158 ⟨Nat.le_of_ble_eq_true rfl, Nat.le_of_ble_eq_true rfl⟩ (fun H locs hX hS => ?_)
  have hX : PX G 128 (ux (c6 G [.ref (G.2.2 1), .ref (G.2.2 4), .ref (G.2.2 6), .ref (G.2.2 7), .ref (G.2.2 18), .ref (G.2.2 117), .ref (G.2.2 120), .null, .ref (G.2.2 23), .int 0, .int 0, .int 0, .int 0, .int 0, .int 0, .int 0] (rfr G 10)) 125 (.inr (0, d0))) H := c6_me (h := 125) (by omega) hX
  refine lv_aload_n hx hb dX6_init_161 rfl (lv_at hl 1 rfl) ?_
  refine cx_get C hX (o := 0) (ci := 6) (fs := [.ref (G.2.2 1), .ref (G.2.2 4), .ref (G.2.2 6), .ref (G.2.2 7), .ref (G.2.2 18), .ref (G.2.2 117), .ref (G.2.2 120), .null, .ref (G.2.2 23), .int 0, .int 0, .int 0, .int 0, .int 0, .int 0, .int 0]) (by omega) rfl rfl 2 (by decide) rfl w_223 (v := .ref (G.2.2 6)) rfl dX6_init_162 ?_
  refine cx_call C hX hS (As := [.ref (G.2.2 126), .ref (G.2.2 6)]) (h := 125) (c_X0 l hA hi (h := 125) (n := 128) rfl rfl (by omega) rfl) ⟨w_160, w_7, by decide, by decide, rfl⟩ w_159 w_158 rfl rfl hl.1 rfl (Nat.le_of_ble_eq_true rfl) ⟨Nat.le_of_ble_eq_true rfl, Nat.le_of_ble_eq_true rfl⟩ dX6_init_165 ⟨Nat.le_of_ble_eq_true rfl, Nat.le_of_ble_eq_true rfl⟩ (fun H locs hX hS => ?_)
  have hX : PX G 130 (c6 G [.ref (G.2.2 1), .ref (G.2.2 4), .ref (G.2.2 6), .ref (G.2.2 7), .ref (G.2.2 18), .ref (G.2.2 117), .ref (G.2.2 120), .null, .ref (G.2.2 23), .int 0, .int 0, .int 0, .int 0, .int 0, .int 0, .int 0] (rfr G 10)) H := c6_co (h := 125) (n := 128) rfl rfl (by omega) (by omega) hX
  refine cx_put C hX hS (o := 0) (ci := 6) (by omega) rfl rfl 7 (by decide) (Nat.le_of_ble_eq_true rfl) rfl w_228 rfl rfl (Or.inr ⟨rfl, hin, rfl⟩) dX6_init_168 (fun H locs hX hS => ?_)
  have hX : PX G 130 (c6 G [.ref (G.2.2 1), .ref (G.2.2 4), .ref (G.2.2 6), .ref (G.2.2 7), .ref (G.2.2 18), .ref (G.2.2 117), .ref (G.2.2 120), .ref (G.2.2 125), .ref (G.2.2 23), .int 0, .int 0, .int 0, .int 0, .int 0, .int 0, .int 0] (rfr G 10)) H := c6_put hX
  exact cx_vret C hr hlocks hX hS dX6_init_171
