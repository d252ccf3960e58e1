/-! the constructors -/
def T0 : St := (fun o k => if ko o = 5 ∧ k = 1 then 1 else 0, fun _ _ => 0)
theorem PX.cg {G : Gm} {n : Nat} {X X' : Nat → va_E} {H : Heap} (h : PX G n X H) (e : ∀ o, o < n → X' o = X o) : PX G n X' H := ⟨h.1, fun k q hq => by
  obtain ⟨hk, rfl⟩ := wx_le hq
  rw [e k hk]
  exact h.2 k _ (wx_at hk)⟩
theorem T0_z {o : Nat} (h : ko o ≠ 5) : T0.1 o = fun _ => 0 := funext fun k => if_neg (fun z => h z.1)
theorem pc_i {G : Gm} {o N : Nat} (h : ko o = 10) (hN : len o = N) : pic G T0 o = .inl (G.2.1 0, N, .inl (fun _ => 0)) := by
  subst hN
  simp [pic, pi, h, T0_z (o := o) (by omega)]
theorem pc_z {G : Gm} {o N : Nat} (h : ko o = 11) (hN : len o = N) : pic G T0 o = .inl (G.2.1 1, N, .inl (fun _ => 0)) := by
  subst hN
  simp [pic, pi, h, T0_z (o := o) (by omega)]
theorem pc_3 {G : Gm} {o : Nat} (h : ko o = 3) : pic G T0 o = .inr (3, [.ref (G.2.2 (o + 1)), .ref (G.2.2 (o + 2)), .ref (G.2.2 (o + 3)), .int 0]) := by
  simp [pic, pi, h, nf, fv, fk, rc, T0_z (o := o) (by omega), List.range_succ]
theorem pc_5 {G : Gm} {o : Nat} (h : ko o = 5) : pic G T0 o = .inr (5, [.ref (G.2.2 (o + 1)), .ref (G.2.2 (o + 5)), .int 0, .int 0, .int 0]) := by
  simp [pic, pi, h, nf, fv, fk, rc, T0, mb, List.range_succ]
theorem pc_4 {G : Gm} {o : Nat} (h : ko o = 4) : pic G T0 o = .inr (4, [.ref (G.2.2 (o + 1)), .ref (G.2.2 1), .int 0, .int 0, .int 0, .int 0]) := by
  simp [pic, pi, h, nf, fv, fk, rc, T0_z (o := o) (by omega), List.range_succ]
theorem pc_0 {G : Gm} {o : Nat} (h : ko o = 0) : pic G T0 o = .inr (0, [.ref (G.2.2 (mo o)), .ref (G.2.2 6), .ref (G.2.2 (wi o)), .ref (G.2.2 (wi o + 1)), .int 0, .int 0, .int 0, .int 0, .int 0, .int 0, .int 0, .int 0, .int 0, .int 0, .int 0, .int 0]) := by
  simp [pic, pi, h, nf, fv, fk, rc, T0_z (o := o) (by omega), List.range_succ]
abbrev d3 : List Value := [.null, .null, .null, .int 0]
abbrev d5 : List Value := [.null, .null, .int 0, .int 0, .int 0]
abbrev d4 : List Value := [.null, .null, .int 0, .int 0, .int 0, .int 0]
abbrev d0 : List Value := [.null, .null, .null, .null, .int 0, .int 0, .int 0, .int 0, .int 0, .int 0, .int 0, .int 0, .int 0, .int 0, .int 0, .int 0]
def bk (G : Gm) (X : Nat → va_E) (h k : Nat) : Nat → va_E := fun o => if h ≤ o ∧ o < h + k then pic G T0 o else X o
/-- a constructor's object with the fields fs, and behind it cells that are made -/
def cw (G : Gm) (X : Nat → va_E) (h ci : Nat) (fs : List Value) (a b : Nat) : Nat → va_E := fun o => if o = h then .inr (ci, fs) else if a ≤ o ∧ o < b then pic G T0 o else X o
theorem cw_h {G : Gm} {X : Nat → va_E} {h ci : Nat} {fs : List Value} {a b : Nat} : cw G X h ci fs a b h = .inr (ci, fs) := if_pos rfl
theorem cw_0 {G : Gm} {X : Nat → va_E} {h ci n : Nat} {fs : List Value} {H : Heap} (hX : PX G n X H) (e : X h = .inr (ci, fs)) : PX G n (cw G X h ci fs n n) H := hX.cg (fun o ho => by
  unfold cw
  by_cases q : o = h
  · rw [if_pos q, q, e]
  · rw [if_neg q, if_neg (by omega)])
theorem cw_new {G : Gm} {X : Nat → va_E} {h ci a b : Nat} {fs : List Value} {e : va_E} {H : Heap} (hX : PX G (b + 1) (ux (cw G X h ci fs a b) b e) H) (he : pic G T0 b = e) (h1 : h ≠ b) (h2 : a ≤ b) : PX G (b + 1) (cw G X h ci fs a (b + 1)) H := hX.cg (fun o ho => by
  unfold ux cw
  by_cases q : o = b
  · rw [if_pos q, if_neg (by omega), if_pos (by omega), q, he]
  · rw [if_neg q]
    by_cases q2 : o = h
    · rw [if_pos q2, if_pos q2]
    · rw [if_neg q2, if_neg q2]
      by_cases q3 : a ≤ o ∧ o < b
      · rw [if_pos q3, if_pos (by omega)]
      · rw [if_neg q3, if_neg (by omega)])
theorem cw_put {G : Gm} {X : Nat → va_E} {h ci a b n : Nat} {fs fs' : List Value} {H : Heap} (hX : PX G n (ux (cw G X h ci fs a b) h (.inr (ci, fs'))) H) : PX G n (cw G X h ci fs' a b) H := hX.cg (fun o ho => by
  unfold ux cw
  by_cases q2 : o = h
  · rw [if_pos q2, if_pos q2]
  · rw [if_neg q2, if_neg q2, if_neg q2])
theorem cw_sub {G : Gm} {X : Nat → va_E} {h ci a b k : Nat} {fs : List Value} {e : va_E} {H : Heap} (hX : PX G (b + k) (bk G (ux (cw G X h ci fs a b) b e) b k) H) (h1 : h < b) (h2 : a ≤ b) (h3 : 0 < k) : PX G (b + k) (cw G X h ci fs a (b + k)) H := hX.cg (fun o ho => by
  unfold bk ux cw
  by_cases q : b ≤ o ∧ o < b + k
  · rw [if_pos q, if_neg (by omega), if_pos (by omega)]
  · rw [if_neg q, if_neg (c := o = b) (by omega)]
    by_cases q2 : o = h
    · rw [if_pos q2, if_pos q2]
    · rw [if_neg q2, if_neg q2]
      by_cases q3 : a ≤ o ∧ o < b
      · rw [if_pos q3, if_pos (by omega)]
      · rw [if_neg q3, if_neg (by omega)])
theorem cw_mna {G : Gm} {X : Nat → va_E} {h ci a b N K : Nat} {fs : List Value} {H : Heap} (hX : PX G (b + 1 + N) (mx G b N K (cw G X h ci fs a b)) H) (h1 : h < b) (h2 : a ≤ b) (hk : ko b = 13 ∧ len b = N) (hr : ∀ j, j < N → ko (b + 1 + j) = 10 ∧ len (b + 1 + j) = K) : PX G (b + 1 + N) (cw G X h ci fs a (b + 1 + N)) H := hX.cg (fun o ho => by
  unfold mx cw
  by_cases q : o = b
  · rw [if_pos q, if_neg (by omega), if_pos (by omega), q]
    simp [pic, pi, hk.1, hk.2, rc]
  · rw [if_neg q]
    by_cases q1 : b < o ∧ o ≤ b + N
    · rw [if_pos q1, if_neg (by omega), if_pos (by omega)]
      have := hr (o - b - 1) (by omega)
      rw [show b + 1 + (o - b - 1) = o by omega] at this
      exact pc_i this.1 this.2
    · rw [if_neg q1]
      by_cases q2 : o = h
      · rw [if_pos q2, if_pos q2]
      · rw [if_neg q2, if_neg q2]
        by_cases q3 : a ≤ o ∧ o < b
        · rw [if_pos q3, if_pos (by omega)]
        · rw [if_neg q3, if_neg (by omega)])
theorem cw_fin {G : Gm} {X : Nat → va_E} {h ci k : Nat} {fs : List Value} {H : Heap} (hX : PX G (h + k) (cw G X h ci fs (h + 1) (h + k)) H) (e : pic G T0 h = .inr (ci, fs)) (hk : 0 < k) : PX G (h + k) (bk G X h k) H := hX.cg (fun o ho => by
  unfold bk cw
  by_cases q : o = h
  · rw [if_pos q, if_pos (by omega), q, e]
  · rw [if_neg q]
    by_cases q3 : h + 1 ≤ o ∧ o < h + k
    · rw [if_pos q3, if_pos (by omega)]
    · rw [if_neg q3, if_neg (by omega)])
/-- Member() -/
theorem c_X3 (l : Launch) {G : Gm} (hA : Ad G) (hi : Inj G) {h : Nat} {X : Nat → va_E} (hk : ko h = 3) (hXh : X h = .inr (3, d3)) : Mc l yX3_init cX3_init 1 1 3 72 12 G [.ref (G.2.2 h)] (h + 1) X (h + 4) (bk G X h 4) := by
  refine cx_head (lv := [(0, .ref (G.2.2 h))]) hA hi (by decide) rfl (Nat.le_of_ble_eq_true rfl) rfl ?_
  intro p e s m below meth c C hr hlocks hin hX hS ls hl
  have hx := C.1.1
  have hb := C.1.2.1
  obtain ⟨m1, m2, m3⟩ := ko_mem hk
  have hX := cw_0 hX hXh
  refine lv_aload_n hx hb dX3_init_0 rfl (lv_at hl 0 rfl) ?_
  refine cx_obj C w_106 hl.1 dX3_init_1 (Nat.le_of_ble_eq_true rfl) (Nat.le_of_ble_eq_true rfl) ?_
  refine lv_aload_n hx hb dX3_init_4 rfl (lv_at hl 0 rfl) ?_
  refine lv_bipush (v := 24) hx hb dX3_init_5 (by decide) ?_
  refine cx_newi C hX hS (N := 24) (by decide) (by decide) (by decide) (Nat.le_of_ble_eq_true rfl) (Nat.le_of_ble_eq_true rfl) dX3_init_7 (fun H hX hS => ?_)
  have hX := cw_new hX (pc_i (show ko (h + 1) = 10 from m1.1) (show len (h + 1) = 24 from m1.2)) (by omega) (by omega)
  refine cx_put C hX hS (o := h) (by omega) cw_h rfl 0 (by decide) (by simp) rfl w_107 rfl rfl (Or.inr ⟨rfl, hin, rfl⟩) dX3_init_9 (fun H locs hX hS => ?_)
  have hX := cw_put hX
  refine lv_aload_n hx hb dX3_init_12 rfl (lv_at hl 0 rfl) ?_
  refine lv_bipush (v := 24) hx hb dX3_init_13 (by decide) ?_
  refine cx_newi C hX hS (N := 24) (by decide) (by decide) (by decide) (Nat.le_of_ble_eq_true rfl) (Nat.le_of_ble_eq_true rfl) dX3_init_15 (fun H hX hS => ?_)
  have hX := cw_new hX (pc_i (show ko (h + 1 + 1) = 10 from m2.1) (show len (h + 1 + 1) = 24 from m2.2)) (by omega) (by omega)
  refine cx_put C hX hS (o := h) (by omega) cw_h rfl 1 (by decide) (by simp) rfl w_110 rfl rfl (Or.inr ⟨rfl, hin, rfl⟩) dX3_init_17 (fun H locs hX hS => ?_)
  have hX := cw_put hX
  refine lv_aload_n hx hb dX3_init_20 rfl (lv_at hl 0 rfl) ?_
  refine lv_bipush (v := 24) hx hb dX3_init_21 (by decide) ?_
  refine cx_newi C hX hS (N := 24) (by decide) (by decide) (by decide) (Nat.le_of_ble_eq_true rfl) (Nat.le_of_ble_eq_true rfl) dX3_init_23 (fun H hX hS => ?_)
  have hX := cw_new hX (pc_i (show ko (h + 1 + 1 + 1) = 10 from m3.1) (show len (h + 1 + 1 + 1) = 24 from m3.2)) (by omega) (by omega)
  refine cx_put C hX hS (o := h) (by omega) cw_h rfl 2 (by decide) (by simp) rfl w_113 rfl rfl (Or.inr ⟨rfl, hin, rfl⟩) dX3_init_25 (fun H locs hX hS => ?_)
  have hX := cw_put hX
  exact cx_vret C hr hlocks (cw_fin (k := 4) hX (pc_3 hk) (by omega)) hS dX3_init_28
/-- Cover() -/
theorem c_X1 (l : Launch) {G : Gm} (hA : Ad G) (hi : Inj G) {X : Nat → va_E} (hXh : X 1 = .inr (1, [.null, .null])) : Mc l yX1_init cX1_init 1 1 2 272 12 G [.ref (G.2.2 1)] 2 X 4 (bk G X 1 3) := by
  refine cx_head (lv := [(0, .ref (G.2.2 1))]) hA hi (by decide) rfl (Nat.le_of_ble_eq_true rfl) rfl ?_
  intro p e s m below meth c C hr hlocks hin hX hS ls hl
  have hx := C.1.1
  have hb := C.1.2.1
  have hX := cw_0 hX hXh
  refine lv_aload_n hx hb dX1_init_0 rfl (lv_at hl 0 rfl) ?_
  refine cx_obj C w_34 hl.1 dX1_init_1 (Nat.le_of_ble_eq_true rfl) (Nat.le_of_ble_eq_true rfl) ?_
  refine lv_aload_n hx hb dX1_init_4 rfl (lv_at hl 0 rfl) ?_
  refine lv_sipush (v := 256) hx hb dX1_init_5 (by decide) ?_
  refine cx_newi C hX hS (N := 256) (by decide) (by decide) (by decide) (Nat.le_of_ble_eq_true rfl) (Nat.le_of_ble_eq_true rfl) dX1_init_8 (fun H hX hS => ?_)
  have hX := cw_new hX (pc_i (show ko 2 = 10 from rfl) (show len 2 = 256 from rfl)) (by omega) (by omega)
  refine cx_put C hX hS (o := 1) (by omega) cw_h rfl 0 (by decide) (by simp) rfl w_35 rfl rfl (Or.inr ⟨rfl, hin, rfl⟩) dX1_init_10 (fun H locs hX hS => ?_)
  have hX := cw_put hX
  refine lv_aload_n hx hb dX1_init_13 rfl (lv_at hl 0 rfl) ?_
  refine lv_bipush (v := 16) hx hb dX1_init_14 (by decide) ?_
  refine cx_newi C hX hS (N := 16) (by decide) (by decide) (by decide) (Nat.le_of_ble_eq_true rfl) (Nat.le_of_ble_eq_true rfl) dX1_init_16 (fun H hX hS => ?_)
  have hX := cw_new hX (pc_i (show ko 3 = 10 from rfl) (show len 3 = 16 from rfl)) (by omega) (by omega)
  refine cx_put C hX hS (o := 1) (by omega) cw_h rfl 1 (by decide) (by simp) rfl w_37 rfl rfl (Or.inr ⟨rfl, hin, rfl⟩) dX1_init_18 (fun H locs hX hS => ?_)
  have hX := cw_put hX
  exact cx_vret C hr hlocks (cw_fin (h := 1) (k := 3) hX rfl (by omega)) hS dX1_init_21
/-- Memory(cover) -/
theorem c_X4 (l : Launch) {G : Gm} (hA : Ad G) (hi : Inj G) {h : Nat} {X : Nat → va_E} (hk : ko h = 4) (hXh : X h = .inr (4, d4)) : Mc l yX4_init cX4_init 2 1 1 256 12 G [.ref (G.2.2 h), .ref (G.2.2 1)] (h + 1) X (h + 2) (bk G X h 2) := by
  refine cx_head (lv := [(0, .ref (G.2.2 h)), (1, .ref (G.2.2 1))]) hA hi (by decide) rfl (Nat.le_of_ble_eq_true rfl) rfl ?_
  intro p e s m below meth c C hr hlocks hin hX hS ls hl
  have hx := C.1.1
  have hb := C.1.2.1
  have m1 := ko_by hk
  have hX := cw_0 hX hXh
  refine lv_aload_n hx hb dX4_init_0 rfl (lv_at hl 0 rfl) ?_
  refine cx_obj C w_51 hl.1 dX4_init_1 (Nat.le_of_ble_eq_true rfl) (Nat.le_of_ble_eq_true rfl) ?_
  refine lv_aload_n hx hb dX4_init_4 rfl (lv_at hl 0 rfl) ?_
  refine lv_sipush (v := 256) hx hb dX4_init_5 (by decide) ?_
  refine cx_newi C hX hS (N := 256) (by decide) (by decide) (by decide) (Nat.le_of_ble_eq_true rfl) (Nat.le_of_ble_eq_true rfl) dX4_init_8 (fun H hX hS => ?_)
  have hX := cw_new hX (pc_i m1.1 m1.2) (by omega) (by omega)
  refine cx_put C hX hS (o := h) (by omega) cw_h rfl 0 (by decide) (by simp) rfl w_52 rfl rfl (Or.inr ⟨rfl, hin, rfl⟩) dX4_init_10 (fun H locs hX hS => ?_)
  have hX := cw_put hX
  refine lv_aload_n hx hb dX4_init_13 rfl (lv_at hl 0 rfl) ?_
  refine lv_aload_n hx hb dX4_init_14 rfl (lv_at hl 1 rfl) ?_
  refine cx_put C hX hS (o := h) (by omega) cw_h rfl 1 (by decide) (by simp) rfl w_55 rfl rfl (Or.inr ⟨rfl, hin, rfl⟩) dX4_init_15 (fun H locs hX hS => ?_)
  have hX := cw_put hX
  exact cx_vret C hr hlocks (cw_fin (k := 2) hX (pc_4 hk) (by omega)) hS dX4_init_18
/-- Course(memory, routines) -/
theorem c_X0 (l : Launch) {G : Gm} (hA : Ad G) (hi : Inj G) {h n : Nat} {X : Nat → va_E} (hk : ko h = 0) (hw : wi h = n) (hn : h < n) (hXh : X h = .inr (0, d0)) : Mc l yX0_init cX0_init 3 1 2 12 12 G [.ref (G.2.2 h), .ref (G.2.2 (mo h)), .ref (G.2.2 6)] n X (n + 2) (cw G X h 0 [.ref (G.2.2 (mo h)), .ref (G.2.2 6), .ref (G.2.2 n), .ref (G.2.2 (n + 1)), .int 0, .int 0, .int 0, .int 0, .int 0, .int 0, .int 0, .int 0, .int 0, .int 0, .int 0, .int 0] n (n + 2)) := by
  refine cx_head (lv := [(0, .ref (G.2.2 h)), (1, .ref (G.2.2 (mo h))), (2, .ref (G.2.2 6))]) hA hi (by decide) rfl (Nat.le_of_ble_eq_true rfl) rfl ?_
  intro p e s m below meth c C hr hlocks hin hX hS ls hl
  have hx := C.1.1
  have hb := C.1.2.1
  obtain ⟨-, m1, m2⟩ := ko_co hk
  rw [hw] at m1 m2
  have hX := cw_0 hX hXh
  refine lv_aload_n hx hb dX0_init_0 rfl (lv_at hl 0 rfl) ?_
  refine cx_obj C w_161 hl.1 dX0_init_1 (Nat.le_of_ble_eq_true rfl) (Nat.le_of_ble_eq_true rfl) ?_
  refine lv_aload_n hx hb dX0_init_4 rfl (lv_at hl 0 rfl) ?_
  refine lv_bipush (v := 6) hx hb dX0_init_5 (by decide) ?_
  refine cx_newi C hX hS (N := 6) (by decide) (by decide) (by decide) (Nat.le_of_ble_eq_true rfl) (Nat.le_of_ble_eq_true rfl) dX0_init_7 (fun H hX hS => ?_)
  have hX := cw_new hX (pc_i m1.1 m1.2) (by omega) (by omega)
  refine cx_put C hX hS (o := h) (by omega) cw_h rfl 2 (by decide) (by simp) rfl w_165 rfl rfl (Or.inr ⟨rfl, hin, rfl⟩) dX0_init_9 (fun H locs hX hS => ?_)
  have hX := cw_put hX
  refine lv_aload_n hx hb dX0_init_12 rfl (lv_at hl 0 rfl) ?_
  refine lv_bipush (v := 6) hx hb dX0_init_13 (by decide) ?_
  refine cx_newi C hX hS (N := 6) (by decide) (by decide) (by decide) (Nat.le_of_ble_eq_true rfl) (Nat.le_of_ble_eq_true rfl) dX0_init_15 (fun H hX hS => ?_)
  have hX := cw_new hX (pc_i m2.1 m2.2) (by omega) (by omega)
  refine cx_put C hX hS (o := h) (by omega) cw_h rfl 3 (by decide) (by simp) rfl w_166 rfl rfl (Or.inr ⟨rfl, hin, rfl⟩) dX0_init_17 (fun H locs hX hS => ?_)
  have hX := cw_put hX
  refine lv_aload_n hx hb dX0_init_20 rfl (lv_at hl 0 rfl) ?_
  refine lv_aload_n hx hb dX0_init_21 rfl (lv_at hl 1 rfl) ?_
  refine cx_put C hX hS (o := h) (by omega) cw_h rfl 0 (by decide) (by simp) rfl w_162 rfl rfl (Or.inr ⟨rfl, hin, rfl⟩) dX0_init_22 (fun H locs hX hS => ?_)
  have hX := cw_put hX
  refine lv_aload_n hx hb dX0_init_25 rfl (lv_at hl 0 rfl) ?_
  refine lv_aload_n hx hb dX0_init_26 rfl (lv_at hl 2 rfl) ?_
  refine cx_put C hX hS (o := h) (by omega) cw_h rfl 1 (by decide) (by simp) rfl w_164 rfl rfl (Or.inr ⟨rfl, hin, rfl⟩) dX0_init_27 (fun H locs hX hS => ?_)
  have hX := cw_put hX
  exact cx_vret C hr hlocks hX hS dX0_init_30
