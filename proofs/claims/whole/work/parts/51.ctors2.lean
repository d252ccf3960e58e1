/-! the constructors, second part -/
/-- Kept() -/
theorem c_X2 (l : Launch) {G : Gm} (hA : Ad G) (hi : Inj G) {X : Nat → va_E} (hXh : X 7 = .inr (2, [.null, .int 0, .int 0])) : Mc l yX2_init cX2_init 1 1 10 2313 12 G [.ref (G.2.2 7)] 8 X 18 (bk G X 7 11) := by
  refine cx_head (lv := [(0, .ref (G.2.2 7))]) hA hi (by decide) rfl (Nat.le_of_ble_eq_true rfl) rfl ?_
  intro p e s m below meth c C hr hlocks hin hX hS ls hl
  have hx := C.1.1
  have hb := C.1.2.1
  have hX := cw_0 hX hXh
  refine lv_aload_n hx hb dX2_init_0 rfl (lv_at hl 0 rfl) ?_
  refine cx_obj C w_86 hl.1 dX2_init_1 (Nat.le_of_ble_eq_true rfl) (Nat.le_of_ble_eq_true rfl) ?_
  refine lv_aload_n hx hb dX2_init_4 rfl (lv_at hl 0 rfl) ?_
  refine lv_bipush (v := 9) hx hb dX2_init_5 (by decide) ?_
  refine lv_sipush (v := 256) hx hb dX2_init_7 (by decide) ?_
  refine cx_mna C hX hS (N := 9) (K := 256) q_87 (by decide) (by decide) (by decide) (by decide) (by decide) (by decide) (Nat.le_of_ble_eq_true rfl) (Nat.le_of_ble_eq_true rfl) dX2_init_10 (fun H hX hS => ?_)
  have hX := cw_mna hX (by omega) (by omega) ⟨rfl, rfl⟩ (by decide)
  refine cx_put C hX hS (o := 7) (by omega) cw_h rfl 0 (by decide) (by simp) rfl w_89 rfl rfl (Or.inr ⟨rfl, hin, rfl⟩) dX2_init_14 (fun H locs hX hS => ?_)
  have hX := cw_put hX
  exact cx_vret C hr hlocks (cw_fin (h := 7) (k := 11) hX rfl (by omega)) hS dX2_init_17
/-- Routine() -/
theorem c_X5 (l : Launch) {G : Gm} (hA : Ad G) (hi : Inj G) {h : Nat} {X : Nat → va_E} (hk : ko h = 5) (hXh : X h = .inr (5, d5)) : Mc l yX5_init cX5_init 1 2 8 152 32 G [.ref (G.2.2 h)] (h + 1) X (h + 9) (bk G X h 9) := by
  refine cx_head (lv := [(0, .ref (G.2.2 h))]) hA hi (by decide) rfl (Nat.le_of_ble_eq_true rfl) rfl ?_
  intro p e s m below meth c C hr hlocks hin hX hS ls hl
  have hx := C.1.1
  have hb := C.1.2.1
  have m1 : ko (h + 1) = 3 := ko_mb hk 0
  have m2 : ko (h + 1 + 4) = 3 := ko_mb hk 1
  have hX := cw_0 hX hXh
  refine lv_aload_n hx hb dX5_init_0 rfl (lv_at hl 0 rfl) ?_
  refine cx_obj C w_131 hl.1 dX5_init_1 (Nat.le_of_ble_eq_true rfl) (Nat.le_of_ble_eq_true rfl) ?_
  refine lv_aload_n hx hb dX5_init_4 rfl (lv_at hl 0 rfl) ?_
  refine cx_new C hX hS (ci := 3) (fs := d3) rfl q_132 q_102 w_5 (by decide) (Nat.le_of_ble_eq_true rfl) (Nat.le_of_ble_eq_true rfl) dX5_init_5 (fun H hX hS => ?_)
  refine lv_dup hx hb dX5_init_8 rfl ?_
  refine cx_call C hX hS (As := []) (c_X3 l hA hi m1 ux_k) ⟨w_105, w_5, by decide, by decide, by decide⟩ w_104 w_133 rfl rfl hl.1 rfl (Nat.le_of_ble_eq_true rfl) ⟨Nat.le_of_ble_eq_true rfl, Nat.le_of_ble_eq_true rfl⟩ dX5_init_9 ⟨Nat.le_of_ble_eq_true rfl, Nat.le_of_ble_eq_true rfl⟩ (fun H locs hX hS => ?_)
  have hX := cw_sub hX (by omega) (by omega) (by omega)
  refine cx_put C hX hS (o := h) (by omega) cw_h rfl 0 (by decide) (by simp) rfl w_134 rfl rfl (Or.inl rfl) dX5_init_12 (fun H locs hX hS => ?_)
  have hX := cw_put hX
  refine lv_aload_n hx hb dX5_init_15 rfl (lv_at hl 0 rfl) ?_
  refine cx_new C hX hS (ci := 3) (fs := d3) rfl q_132 q_102 w_5 (by decide) (Nat.le_of_ble_eq_true rfl) (Nat.le_of_ble_eq_true rfl) dX5_init_16 (fun H hX hS => ?_)
  refine lv_dup hx hb dX5_init_19 rfl ?_
  refine cx_call C hX hS (As := []) (c_X3 l hA hi m2 ux_k) ⟨w_105, w_5, by decide, by decide, by decide⟩ w_104 w_133 rfl rfl hl.1 rfl (Nat.le_of_ble_eq_true rfl) ⟨Nat.le_of_ble_eq_true rfl, Nat.le_of_ble_eq_true rfl⟩ dX5_init_20 ⟨Nat.le_of_ble_eq_true rfl, Nat.le_of_ble_eq_true rfl⟩ (fun H locs hX hS => ?_)
  have hX := cw_sub hX (by omega) (by omega) (by omega)
  refine cx_put C hX hS (o := h) (by omega) cw_h rfl 1 (by decide) (by simp) rfl w_137 rfl rfl (Or.inl rfl) dX5_init_23 (fun H locs hX hS => ?_)
  have hX := cw_put hX
  exact cx_vret C hr hlocks (cw_fin (k := 9) hX (pc_5 hk) (by omega)) hS dX5_init_26
abbrev d7 : List Value := [.int 0, .null, .int 0, .null, .null, .null, .null, .null, .null, .null, .null, .null, .null, .int 0, .int 0, .int 0, .int 0, .long 0, .long 0, .int 0, .null, .int 0, .null, .null, .null, .null, .null, .null, .null, .null, .int 0, .int 0, .int 0, .int 0, .int 0, .int 0, .int 0, .int 0, .int 0, .int 0]
theorem pc_7 {G : Gm} : pic G T0 130 = .inr (7, [.int 0, .ref (G.2.2 131), .int 0, .ref (G.2.2 132), .ref (G.2.2 133), .ref (G.2.2 134), .ref (G.2.2 135), .ref (G.2.2 136), .ref (G.2.2 137), .ref (G.2.2 138), .ref (G.2.2 139), .ref (G.2.2 140), .ref (G.2.2 141), .int 0, .int 0, .int 0, .int 0, .long 0, .long 0, .int 0, .ref (G.2.2 142), .int 0, .ref (G.2.2 143), .ref (G.2.2 144), .ref (G.2.2 145), .ref (G.2.2 146), .ref (G.2.2 147), .ref (G.2.2 148), .ref (G.2.2 149), .ref (G.2.2 150), .int 0, .int 0, .int 0, .int 0, .int 0, .int 0, .int 0, .int 0, .int 0, .int 0]) := rfl
/-- SelfChangeModel() -/
theorem c_X7 (l : Launch) {G : Gm} (hA : Ad G) (hi : Inj G) {X : Nat → va_E} (hXh : X 130 = .inr (7, d7)) : Mc l yX7_init cX7_init 1 1 20 19773 12 G [.ref (G.2.2 130)] 131 X 151 (bk G X 130 21) := by
  refine cx_head (lv := [(0, .ref (G.2.2 130))]) hA hi (by decide) rfl (Nat.le_of_ble_eq_true rfl) rfl ?_
  intro p e s m below meth c C hr hlocks hin hX hS ls hl
  have hx := C.1.1
  have hb := C.1.2.1
  obtain ⟨f0, e0⟩ : ∃ f, f = d7 := ⟨_, rfl⟩
  rw [← e0] at hXh
  have l0 : f0.length = 40 := by rw [e0]; rfl
  have hX := cw_0 hX hXh
  refine lv_aload_n hx hb dX7_init_0 rfl (lv_at hl 0 rfl) ?_
  refine cx_obj C w_742 hl.1 dX7_init_1 (Nat.le_of_ble_eq_true rfl) (Nat.le_of_ble_eq_true rfl) ?_
  refine lv_aload_n hx hb dX7_init_4 rfl (lv_at hl 0 rfl) ?_
  refine lv_sipush (v := 256) hx hb dX7_init_5 (by decide) ?_
  refine cx_newi C hX hS (N := 256) (by decide) (by decide) (by decide) (Nat.le_of_ble_eq_true rfl) (Nat.le_of_ble_eq_true rfl) dX7_init_8 (fun H hX hS => ?_)
  have hX := cw_new hX (pc_i (show ko 131 = 10 from rfl) (show len 131 = 256 from rfl)) (by omega) (by omega)
  refine cx_put C hX hS (o := 130) (by omega) cw_h rfl 1 (by decide) (by rw [l0]; decide) rfl w_744 rfl rfl (Or.inr ⟨rfl, hin, rfl⟩) dX7_init_10 (fun H locs hX hS => ?_)
  have hX := cw_put hX
  obtain ⟨f1, e1⟩ : ∃ f, f = f0.set 1 (.ref (G.2.2 131)) := ⟨_, rfl⟩
  have x1 : f1 = [.int 0, .ref (G.2.2 131), .int 0, .null, .null, .null, .null, .null, .null, .null, .null, .null, .null, .int 0, .int 0, .int 0, .int 0, .long 0, .long 0, .int 0, .null, .int 0, .null, .null, .null, .null, .null, .null, .null, .null, .int 0, .int 0, .int 0, .int 0, .int 0, .int 0, .int 0, .int 0, .int 0, .int 0] := by rw [e1, e0]; rfl
  rw [← e1] at hX
  have l1 : f1.length = 40 := by rw [e1, List.length_set]; exact l0
  refine lv_aload_n hx hb dX7_init_13 rfl (lv_at hl 0 rfl) ?_
  refine lv_bipush (v := 10) hx hb dX7_init_14 (by decide) ?_
  refine cx_newi C hX hS (N := 10) (by decide) (by decide) (by decide) (Nat.le_of_ble_eq_true rfl) (Nat.le_of_ble_eq_true rfl) dX7_init_16 (fun H hX hS => ?_)
  have hX := cw_new hX (pc_i (show ko 132 = 10 from rfl) (show len 132 = 10 from rfl)) (by omega) (by omega)
  refine cx_put C hX hS (o := 130) (by omega) cw_h rfl 3 (by decide) (by rw [l1]; decide) rfl w_746 rfl rfl (Or.inr ⟨rfl, hin, rfl⟩) dX7_init_18 (fun H locs hX hS => ?_)
  have hX := cw_put hX
  obtain ⟨f2, e2⟩ : ∃ f, f = f1.set 3 (.ref (G.2.2 132)) := ⟨_, rfl⟩
  have x2 : f2 = [.int 0, .ref (G.2.2 131), .int 0, .ref (G.2.2 132), .null, .null, .null, .null, .null, .null, .null, .null, .null, .int 0, .int 0, .int 0, .int 0, .long 0, .long 0, .int 0, .null, .int 0, .null, .null, .null, .null, .null, .null, .null, .null, .int 0, .int 0, .int 0, .int 0, .int 0, .int 0, .int 0, .int 0, .int 0, .int 0] := by rw [e2, x1]; rfl
  rw [← e2] at hX
  have l2 : f2.length = 40 := by rw [e2, List.length_set]; exact l1
  refine lv_aload_n hx hb dX7_init_21 rfl (lv_at hl 0 rfl) ?_
  refine lv_bipush (v := 10) hx hb dX7_init_22 (by decide) ?_
  refine cx_newz C hX hS (N := 10) (by decide) (by decide) (by decide) (Nat.le_of_ble_eq_true rfl) (Nat.le_of_ble_eq_true rfl) dX7_init_24 (fun H hX hS => ?_)
  have hX := cw_new hX (pc_z (show ko 133 = 11 from rfl) (show len 133 = 10 from rfl)) (by omega) (by omega)
  refine cx_put C hX hS (o := 130) (by omega) cw_h rfl 4 (by decide) (by rw [l2]; decide) rfl w_747 rfl rfl (Or.inr ⟨rfl, hin, rfl⟩) dX7_init_26 (fun H locs hX hS => ?_)
  have hX := cw_put hX
  obtain ⟨f3, e3⟩ : ∃ f, f = f2.set 4 (.ref (G.2.2 133)) := ⟨_, rfl⟩
  have x3 : f3 = [.int 0, .ref (G.2.2 131), .int 0, .ref (G.2.2 132), .ref (G.2.2 133), .null, .null, .null, .null, .null, .null, .null, .null, .int 0, .int 0, .int 0, .int 0, .long 0, .long 0, .int 0, .null, .int 0, .null, .null, .null, .null, .null, .null, .null, .null, .int 0, .int 0, .int 0, .int 0, .int 0, .int 0, .int 0, .int 0, .int 0, .int 0] := by rw [e3, x2]; rfl
  rw [← e3] at hX
  have l3 : f3.length = 40 := by rw [e3, List.length_set]; exact l2
  refine lv_aload_n hx hb dX7_init_29 rfl (lv_at hl 0 rfl) ?_
  refine lv_sipush (v := 2560) hx hb dX7_init_30 (by decide) ?_
  refine cx_newz C hX hS (N := 2560) (by decide) (by decide) (by decide) (Nat.le_of_ble_eq_true rfl) (Nat.le_of_ble_eq_true rfl) dX7_init_33 (fun H hX hS => ?_)
  have hX := cw_new hX (pc_z (show ko 134 = 11 from rfl) (show len 134 = 2560 from rfl)) (by omega) (by omega)
  refine cx_put C hX hS (o := 130) (by omega) cw_h rfl 5 (by decide) (by rw [l3]; decide) rfl w_748 rfl rfl (Or.inr ⟨rfl, hin, rfl⟩) dX7_init_35 (fun H locs hX hS => ?_)
  have hX := cw_put hX
  obtain ⟨f4, e4⟩ : ∃ f, f = f3.set 5 (.ref (G.2.2 134)) := ⟨_, rfl⟩
  have x4 : f4 = [.int 0, .ref (G.2.2 131), .int 0, .ref (G.2.2 132), .ref (G.2.2 133), .ref (G.2.2 134), .null, .null, .null, .null, .null, .null, .null, .int 0, .int 0, .int 0, .int 0, .long 0, .long 0, .int 0, .null, .int 0, .null, .null, .null, .null, .null, .null, .null, .null, .int 0, .int 0, .int 0, .int 0, .int 0, .int 0, .int 0, .int 0, .int 0, .int 0] := by rw [e4, x3]; rfl
  rw [← e4] at hX
  have l4 : f4.length = 40 := by rw [e4, List.length_set]; exact l3
  refine lv_aload_n hx hb dX7_init_38 rfl (lv_at hl 0 rfl) ?_
  refine lv_sipush (v := 2560) hx hb dX7_init_39 (by decide) ?_
  refine cx_newz C hX hS (N := 2560) (by decide) (by decide) (by decide) (Nat.le_of_ble_eq_true rfl) (Nat.le_of_ble_eq_true rfl) dX7_init_42 (fun H hX hS => ?_)
  have hX := cw_new hX (pc_z (show ko 135 = 11 from rfl) (show len 135 = 2560 from rfl)) (by omega) (by omega)
  refine cx_put C hX hS (o := 130) (by omega) cw_h rfl 6 (by decide) (by rw [l4]; decide) rfl w_749 rfl rfl (Or.inr ⟨rfl, hin, rfl⟩) dX7_init_44 (fun H locs hX hS => ?_)
  have hX := cw_put hX
  obtain ⟨f5, e5⟩ : ∃ f, f = f4.set 6 (.ref (G.2.2 135)) := ⟨_, rfl⟩
  have x5 : f5 = [.int 0, .ref (G.2.2 131), .int 0, .ref (G.2.2 132), .ref (G.2.2 133), .ref (G.2.2 134), .ref (G.2.2 135), .null, .null, .null, .null, .null, .null, .int 0, .int 0, .int 0, .int 0, .long 0, .long 0, .int 0, .null, .int 0, .null, .null, .null, .null, .null, .null, .null, .null, .int 0, .int 0, .int 0, .int 0, .int 0, .int 0, .int 0, .int 0, .int 0, .int 0] := by rw [e5, x4]; rfl
  rw [← e5] at hX
  have l5 : f5.length = 40 := by rw [e5, List.length_set]; exact l4
  refine lv_aload_n hx hb dX7_init_47 rfl (lv_at hl 0 rfl) ?_
  refine lv_sipush (v := 2560) hx hb dX7_init_48 (by decide) ?_
  refine cx_newi C hX hS (N := 2560) (by decide) (by decide) (by decide) (Nat.le_of_ble_eq_true rfl) (Nat.le_of_ble_eq_true rfl) dX7_init_51 (fun H hX hS => ?_)
  have hX := cw_new hX (pc_i (show ko 136 = 10 from rfl) (show len 136 = 2560 from rfl)) (by omega) (by omega)
  refine cx_put C hX hS (o := 130) (by omega) cw_h rfl 7 (by decide) (by rw [l5]; decide) rfl w_750 rfl rfl (Or.inr ⟨rfl, hin, rfl⟩) dX7_init_53 (fun H locs hX hS => ?_)
  have hX := cw_put hX
  obtain ⟨f6, e6⟩ : ∃ f, f = f5.set 7 (.ref (G.2.2 136)) := ⟨_, rfl⟩
  have x6 : f6 = [.int 0, .ref (G.2.2 131), .int 0, .ref (G.2.2 132), .ref (G.2.2 133), .ref (G.2.2 134), .ref (G.2.2 135), .ref (G.2.2 136), .null, .null, .null, .null, .null, .int 0, .int 0, .int 0, .int 0, .long 0, .long 0, .int 0, .null, .int 0, .null, .null, .null, .null, .null, .null, .null, .null, .int 0, .int 0, .int 0, .int 0, .int 0, .int 0, .int 0, .int 0, .int 0, .int 0] := by rw [e6, x5]; rfl
  rw [← e6] at hX
  have l6 : f6.length = 40 := by rw [e6, List.length_set]; exact l5
  refine lv_aload_n hx hb dX7_init_56 rfl (lv_at hl 0 rfl) ?_
  refine lv_bipush (v := 10) hx hb dX7_init_57 (by decide) ?_
  refine cx_newi C hX hS (N := 10) (by decide) (by decide) (by decide) (Nat.le_of_ble_eq_true rfl) (Nat.le_of_ble_eq_true rfl) dX7_init_59 (fun H hX hS => ?_)
  have hX := cw_new hX (pc_i (show ko 137 = 10 from rfl) (show len 137 = 10 from rfl)) (by omega) (by omega)
  refine cx_put C hX hS (o := 130) (by omega) cw_h rfl 8 (by decide) (by rw [l6]; decide) rfl w_751 rfl rfl (Or.inr ⟨rfl, hin, rfl⟩) dX7_init_61 (fun H locs hX hS => ?_)
  have hX := cw_put hX
  obtain ⟨f7, e7⟩ : ∃ f, f = f6.set 8 (.ref (G.2.2 137)) := ⟨_, rfl⟩
  have x7 : f7 = [.int 0, .ref (G.2.2 131), .int 0, .ref (G.2.2 132), .ref (G.2.2 133), .ref (G.2.2 134), .ref (G.2.2 135), .ref (G.2.2 136), .ref (G.2.2 137), .null, .null, .null, .null, .int 0, .int 0, .int 0, .int 0, .long 0, .long 0, .int 0, .null, .int 0, .null, .null, .null, .null, .null, .null, .null, .null, .int 0, .int 0, .int 0, .int 0, .int 0, .int 0, .int 0, .int 0, .int 0, .int 0] := by rw [e7, x6]; rfl
  rw [← e7] at hX
  have l7 : f7.length = 40 := by rw [e7, List.length_set]; exact l6
  refine lv_aload_n hx hb dX7_init_64 rfl (lv_at hl 0 rfl) ?_
  refine lv_bipush (v := 10) hx hb dX7_init_65 (by decide) ?_
  refine cx_newz C hX hS (N := 10) (by decide) (by decide) (by decide) (Nat.le_of_ble_eq_true rfl) (Nat.le_of_ble_eq_true rfl) dX7_init_67 (fun H hX hS => ?_)
  have hX := cw_new hX (pc_z (show ko 138 = 11 from rfl) (show len 138 = 10 from rfl)) (by omega) (by omega)
  refine cx_put C hX hS (o := 130) (by omega) cw_h rfl 9 (by decide) (by rw [l7]; decide) rfl w_752 rfl rfl (Or.inr ⟨rfl, hin, rfl⟩) dX7_init_69 (fun H locs hX hS => ?_)
  have hX := cw_put hX
  obtain ⟨f8, e8⟩ : ∃ f, f = f7.set 9 (.ref (G.2.2 138)) := ⟨_, rfl⟩
  have x8 : f8 = [.int 0, .ref (G.2.2 131), .int 0, .ref (G.2.2 132), .ref (G.2.2 133), .ref (G.2.2 134), .ref (G.2.2 135), .ref (G.2.2 136), .ref (G.2.2 137), .ref (G.2.2 138), .null, .null, .null, .int 0, .int 0, .int 0, .int 0, .long 0, .long 0, .int 0, .null, .int 0, .null, .null, .null, .null, .null, .null, .null, .null, .int 0, .int 0, .int 0, .int 0, .int 0, .int 0, .int 0, .int 0, .int 0, .int 0] := by rw [e8, x7]; rfl
  rw [← e8] at hX
  have l8 : f8.length = 40 := by rw [e8, List.length_set]; exact l7
  refine lv_aload_n hx hb dX7_init_72 rfl (lv_at hl 0 rfl) ?_
  refine lv_sipush (v := 2560) hx hb dX7_init_73 (by decide) ?_
  refine cx_newz C hX hS (N := 2560) (by decide) (by decide) (by decide) (Nat.le_of_ble_eq_true rfl) (Nat.le_of_ble_eq_true rfl) dX7_init_76 (fun H hX hS => ?_)
  have hX := cw_new hX (pc_z (show ko 139 = 11 from rfl) (show len 139 = 2560 from rfl)) (by omega) (by omega)
  refine cx_put C hX hS (o := 130) (by omega) cw_h rfl 10 (by decide) (by rw [l8]; decide) rfl w_753 rfl rfl (Or.inr ⟨rfl, hin, rfl⟩) dX7_init_78 (fun H locs hX hS => ?_)
  have hX := cw_put hX
  obtain ⟨f9, e9⟩ : ∃ f, f = f8.set 10 (.ref (G.2.2 139)) := ⟨_, rfl⟩
  have x9 : f9 = [.int 0, .ref (G.2.2 131), .int 0, .ref (G.2.2 132), .ref (G.2.2 133), .ref (G.2.2 134), .ref (G.2.2 135), .ref (G.2.2 136), .ref (G.2.2 137), .ref (G.2.2 138), .ref (G.2.2 139), .null, .null, .int 0, .int 0, .int 0, .int 0, .long 0, .long 0, .int 0, .null, .int 0, .null, .null, .null, .null, .null, .null, .null, .null, .int 0, .int 0, .int 0, .int 0, .int 0, .int 0, .int 0, .int 0, .int 0, .int 0] := by rw [e9, x8]; rfl
  rw [← e9] at hX
  have l9 : f9.length = 40 := by rw [e9, List.length_set]; exact l8
  refine lv_aload_n hx hb dX7_init_81 rfl (lv_at hl 0 rfl) ?_
  refine lv_sipush (v := 2560) hx hb dX7_init_82 (by decide) ?_
  refine cx_newz C hX hS (N := 2560) (by decide) (by decide) (by decide) (Nat.le_of_ble_eq_true rfl) (Nat.le_of_ble_eq_true rfl) dX7_init_85 (fun H hX hS => ?_)
  have hX := cw_new hX (pc_z (show ko 140 = 11 from rfl) (show len 140 = 2560 from rfl)) (by omega) (by omega)
  refine cx_put C hX hS (o := 130) (by omega) cw_h rfl 11 (by decide) (by rw [l9]; decide) rfl w_754 rfl rfl (Or.inr ⟨rfl, hin, rfl⟩) dX7_init_87 (fun H locs hX hS => ?_)
  have hX := cw_put hX
  obtain ⟨f10, e10⟩ : ∃ f, f = f9.set 11 (.ref (G.2.2 140)) := ⟨_, rfl⟩
  have x10 : f10 = [.int 0, .ref (G.2.2 131), .int 0, .ref (G.2.2 132), .ref (G.2.2 133), .ref (G.2.2 134), .ref (G.2.2 135), .ref (G.2.2 136), .ref (G.2.2 137), .ref (G.2.2 138), .ref (G.2.2 139), .ref (G.2.2 140), .null, .int 0, .int 0, .int 0, .int 0, .long 0, .long 0, .int 0, .null, .int 0, .null, .null, .null, .null, .null, .null, .null, .null, .int 0, .int 0, .int 0, .int 0, .int 0, .int 0, .int 0, .int 0, .int 0, .int 0] := by rw [e10, x9]; rfl
  rw [← e10] at hX
  have l10 : f10.length = 40 := by rw [e10, List.length_set]; exact l9
  refine lv_aload_n hx hb dX7_init_90 rfl (lv_at hl 0 rfl) ?_
  refine lv_sipush (v := 2560) hx hb dX7_init_91 (by decide) ?_
  refine cx_newi C hX hS (N := 2560) (by decide) (by decide) (by decide) (Nat.le_of_ble_eq_true rfl) (Nat.le_of_ble_eq_true rfl) dX7_init_94 (fun H hX hS => ?_)
  have hX := cw_new hX (pc_i (show ko 141 = 10 from rfl) (show len 141 = 2560 from rfl)) (by omega) (by omega)
  refine cx_put C hX hS (o := 130) (by omega) cw_h rfl 12 (by decide) (by rw [l10]; decide) rfl w_755 rfl rfl (Or.inr ⟨rfl, hin, rfl⟩) dX7_init_96 (fun H locs hX hS => ?_)
  have hX := cw_put hX
  obtain ⟨f11, e11⟩ : ∃ f, f = f10.set 12 (.ref (G.2.2 141)) := ⟨_, rfl⟩
  have x11 : f11 = [.int 0, .ref (G.2.2 131), .int 0, .ref (G.2.2 132), .ref (G.2.2 133), .ref (G.2.2 134), .ref (G.2.2 135), .ref (G.2.2 136), .ref (G.2.2 137), .ref (G.2.2 138), .ref (G.2.2 139), .ref (G.2.2 140), .ref (G.2.2 141), .int 0, .int 0, .int 0, .int 0, .long 0, .long 0, .int 0, .null, .int 0, .null, .null, .null, .null, .null, .null, .null, .null, .int 0, .int 0, .int 0, .int 0, .int 0, .int 0, .int 0, .int 0, .int 0, .int 0] := by rw [e11, x10]; rfl
  rw [← e11] at hX
  have l11 : f11.length = 40 := by rw [e11, List.length_set]; exact l10
  refine lv_aload_n hx hb dX7_init_99 rfl (lv_at hl 0 rfl) ?_
  refine lv_sipush (v := 1024) hx hb dX7_init_100 (by decide) ?_
  refine cx_newi C hX hS (N := 1024) (by decide) (by decide) (by decide) (Nat.le_of_ble_eq_true rfl) (Nat.le_of_ble_eq_true rfl) dX7_init_103 (fun H hX hS => ?_)
  have hX := cw_new hX (pc_i (show ko 142 = 10 from rfl) (show len 142 = 1024 from rfl)) (by omega) (by omega)
  refine cx_put C hX hS (o := 130) (by omega) cw_h rfl 20 (by decide) (by rw [l11]; decide) rfl w_763 rfl rfl (Or.inr ⟨rfl, hin, rfl⟩) dX7_init_105 (fun H locs hX hS => ?_)
  have hX := cw_put hX
  obtain ⟨f12, e12⟩ : ∃ f, f = f11.set 20 (.ref (G.2.2 142)) := ⟨_, rfl⟩
  have x12 : f12 = [.int 0, .ref (G.2.2 131), .int 0, .ref (G.2.2 132), .ref (G.2.2 133), .ref (G.2.2 134), .ref (G.2.2 135), .ref (G.2.2 136), .ref (G.2.2 137), .ref (G.2.2 138), .ref (G.2.2 139), .ref (G.2.2 140), .ref (G.2.2 141), .int 0, .int 0, .int 0, .int 0, .long 0, .long 0, .int 0, .ref (G.2.2 142), .int 0, .null, .null, .null, .null, .null, .null, .null, .null, .int 0, .int 0, .int 0, .int 0, .int 0, .int 0, .int 0, .int 0, .int 0, .int 0] := by rw [e12, x11]; rfl
  rw [← e12] at hX
  have l12 : f12.length = 40 := by rw [e12, List.length_set]; exact l11
  refine lv_aload_n hx hb dX7_init_108 rfl (lv_at hl 0 rfl) ?_
  refine lv_sipush (v := 2048) hx hb dX7_init_109 (by decide) ?_
  refine cx_newi C hX hS (N := 2048) (by decide) (by decide) (by decide) (Nat.le_of_ble_eq_true rfl) (Nat.le_of_ble_eq_true rfl) dX7_init_112 (fun H hX hS => ?_)
  have hX := cw_new hX (pc_i (show ko 143 = 10 from rfl) (show len 143 = 2048 from rfl)) (by omega) (by omega)
  refine cx_put C hX hS (o := 130) (by omega) cw_h rfl 22 (by decide) (by rw [l12]; decide) rfl w_765 rfl rfl (Or.inr ⟨rfl, hin, rfl⟩) dX7_init_114 (fun H locs hX hS => ?_)
  have hX := cw_put hX
  obtain ⟨f13, e13⟩ : ∃ f, f = f12.set 22 (.ref (G.2.2 143)) := ⟨_, rfl⟩
  have x13 : f13 = [.int 0, .ref (G.2.2 131), .int 0, .ref (G.2.2 132), .ref (G.2.2 133), .ref (G.2.2 134), .ref (G.2.2 135), .ref (G.2.2 136), .ref (G.2.2 137), .ref (G.2.2 138), .ref (G.2.2 139), .ref (G.2.2 140), .ref (G.2.2 141), .int 0, .int 0, .int 0, .int 0, .long 0, .long 0, .int 0, .ref (G.2.2 142), .int 0, .ref (G.2.2 143), .null, .null, .null, .null, .null, .null, .null, .int 0, .int 0, .int 0, .int 0, .int 0, .int 0, .int 0, .int 0, .int 0, .int 0] := by rw [e13, x12]; rfl
  rw [← e13] at hX
  have l13 : f13.length = 40 := by rw [e13, List.length_set]; exact l12
  refine lv_aload_n hx hb dX7_init_117 rfl (lv_at hl 0 rfl) ?_
  refine lv_sipush (v := 256) hx hb dX7_init_118 (by decide) ?_
  refine cx_newi C hX hS (N := 256) (by decide) (by decide) (by decide) (Nat.le_of_ble_eq_true rfl) (Nat.le_of_ble_eq_true rfl) dX7_init_121 (fun H hX hS => ?_)
  have hX := cw_new hX (pc_i (show ko 144 = 10 from rfl) (show len 144 = 256 from rfl)) (by omega) (by omega)
  refine cx_put C hX hS (o := 130) (by omega) cw_h rfl 23 (by decide) (by rw [l13]; decide) rfl w_766 rfl rfl (Or.inr ⟨rfl, hin, rfl⟩) dX7_init_123 (fun H locs hX hS => ?_)
  have hX := cw_put hX
  obtain ⟨f14, e14⟩ : ∃ f, f = f13.set 23 (.ref (G.2.2 144)) := ⟨_, rfl⟩
  have x14 : f14 = [.int 0, .ref (G.2.2 131), .int 0, .ref (G.2.2 132), .ref (G.2.2 133), .ref (G.2.2 134), .ref (G.2.2 135), .ref (G.2.2 136), .ref (G.2.2 137), .ref (G.2.2 138), .ref (G.2.2 139), .ref (G.2.2 140), .ref (G.2.2 141), .int 0, .int 0, .int 0, .int 0, .long 0, .long 0, .int 0, .ref (G.2.2 142), .int 0, .ref (G.2.2 143), .ref (G.2.2 144), .null, .null, .null, .null, .null, .null, .int 0, .int 0, .int 0, .int 0, .int 0, .int 0, .int 0, .int 0, .int 0, .int 0] := by rw [e14, x13]; rfl
  rw [← e14] at hX
  have l14 : f14.length = 40 := by rw [e14, List.length_set]; exact l13
  refine lv_aload_n hx hb dX7_init_126 rfl (lv_at hl 0 rfl) ?_
  refine lv_bipush (v := 9) hx hb dX7_init_127 (by decide) ?_
  refine cx_newi C hX hS (N := 9) (by decide) (by decide) (by decide) (Nat.le_of_ble_eq_true rfl) (Nat.le_of_ble_eq_true rfl) dX7_init_129 (fun H hX hS => ?_)
  have hX := cw_new hX (pc_i (show ko 145 = 10 from rfl) (show len 145 = 9 from rfl)) (by omega) (by omega)
  refine cx_put C hX hS (o := 130) (by omega) cw_h rfl 24 (by decide) (by rw [l14]; decide) rfl w_767 rfl rfl (Or.inr ⟨rfl, hin, rfl⟩) dX7_init_131 (fun H locs hX hS => ?_)
  have hX := cw_put hX
  obtain ⟨f15, e15⟩ : ∃ f, f = f14.set 24 (.ref (G.2.2 145)) := ⟨_, rfl⟩
  have x15 : f15 = [.int 0, .ref (G.2.2 131), .int 0, .ref (G.2.2 132), .ref (G.2.2 133), .ref (G.2.2 134), .ref (G.2.2 135), .ref (G.2.2 136), .ref (G.2.2 137), .ref (G.2.2 138), .ref (G.2.2 139), .ref (G.2.2 140), .ref (G.2.2 141), .int 0, .int 0, .int 0, .int 0, .long 0, .long 0, .int 0, .ref (G.2.2 142), .int 0, .ref (G.2.2 143), .ref (G.2.2 144), .ref (G.2.2 145), .null, .null, .null, .null, .null, .int 0, .int 0, .int 0, .int 0, .int 0, .int 0, .int 0, .int 0, .int 0, .int 0] := by rw [e15, x14]; rfl
  rw [← e15] at hX
  have l15 : f15.length = 40 := by rw [e15, List.length_set]; exact l14
  refine lv_aload_n hx hb dX7_init_134 rfl (lv_at hl 0 rfl) ?_
  refine lv_sipush (v := 256) hx hb dX7_init_135 (by decide) ?_
  refine cx_newz C hX hS (N := 256) (by decide) (by decide) (by decide) (Nat.le_of_ble_eq_true rfl) (Nat.le_of_ble_eq_true rfl) dX7_init_138 (fun H hX hS => ?_)
  have hX := cw_new hX (pc_z (show ko 146 = 11 from rfl) (show len 146 = 256 from rfl)) (by omega) (by omega)
  refine cx_put C hX hS (o := 130) (by omega) cw_h rfl 25 (by decide) (by rw [l15]; decide) rfl w_768 rfl rfl (Or.inr ⟨rfl, hin, rfl⟩) dX7_init_140 (fun H locs hX hS => ?_)
  have hX := cw_put hX
  obtain ⟨f16, e16⟩ : ∃ f, f = f15.set 25 (.ref (G.2.2 146)) := ⟨_, rfl⟩
  have x16 : f16 = [.int 0, .ref (G.2.2 131), .int 0, .ref (G.2.2 132), .ref (G.2.2 133), .ref (G.2.2 134), .ref (G.2.2 135), .ref (G.2.2 136), .ref (G.2.2 137), .ref (G.2.2 138), .ref (G.2.2 139), .ref (G.2.2 140), .ref (G.2.2 141), .int 0, .int 0, .int 0, .int 0, .long 0, .long 0, .int 0, .ref (G.2.2 142), .int 0, .ref (G.2.2 143), .ref (G.2.2 144), .ref (G.2.2 145), .ref (G.2.2 146), .null, .null, .null, .null, .int 0, .int 0, .int 0, .int 0, .int 0, .int 0, .int 0, .int 0, .int 0, .int 0] := by rw [e16, x15]; rfl
  rw [← e16] at hX
  have l16 : f16.length = 40 := by rw [e16, List.length_set]; exact l15
  refine lv_aload_n hx hb dX7_init_143 rfl (lv_at hl 0 rfl) ?_
  refine lv_sipush (v := 256) hx hb dX7_init_144 (by decide) ?_
  refine cx_newz C hX hS (N := 256) (by decide) (by decide) (by decide) (Nat.le_of_ble_eq_true rfl) (Nat.le_of_ble_eq_true rfl) dX7_init_147 (fun H hX hS => ?_)
  have hX := cw_new hX (pc_z (show ko 147 = 11 from rfl) (show len 147 = 256 from rfl)) (by omega) (by omega)
  refine cx_put C hX hS (o := 130) (by omega) cw_h rfl 26 (by decide) (by rw [l16]; decide) rfl w_769 rfl rfl (Or.inr ⟨rfl, hin, rfl⟩) dX7_init_149 (fun H locs hX hS => ?_)
  have hX := cw_put hX
  obtain ⟨f17, e17⟩ : ∃ f, f = f16.set 26 (.ref (G.2.2 147)) := ⟨_, rfl⟩
  have x17 : f17 = [.int 0, .ref (G.2.2 131), .int 0, .ref (G.2.2 132), .ref (G.2.2 133), .ref (G.2.2 134), .ref (G.2.2 135), .ref (G.2.2 136), .ref (G.2.2 137), .ref (G.2.2 138), .ref (G.2.2 139), .ref (G.2.2 140), .ref (G.2.2 141), .int 0, .int 0, .int 0, .int 0, .long 0, .long 0, .int 0, .ref (G.2.2 142), .int 0, .ref (G.2.2 143), .ref (G.2.2 144), .ref (G.2.2 145), .ref (G.2.2 146), .ref (G.2.2 147), .null, .null, .null, .int 0, .int 0, .int 0, .int 0, .int 0, .int 0, .int 0, .int 0, .int 0, .int 0] := by rw [e17, x16]; rfl
  rw [← e17] at hX
  have l17 : f17.length = 40 := by rw [e17, List.length_set]; exact l16
  refine lv_aload_n hx hb dX7_init_152 rfl (lv_at hl 0 rfl) ?_
  refine lv_sipush (v := 256) hx hb dX7_init_153 (by decide) ?_
  refine cx_newi C hX hS (N := 256) (by decide) (by decide) (by decide) (Nat.le_of_ble_eq_true rfl) (Nat.le_of_ble_eq_true rfl) dX7_init_156 (fun H hX hS => ?_)
  have hX := cw_new hX (pc_i (show ko 148 = 10 from rfl) (show len 148 = 256 from rfl)) (by omega) (by omega)
  refine cx_put C hX hS (o := 130) (by omega) cw_h rfl 27 (by decide) (by rw [l17]; decide) rfl w_770 rfl rfl (Or.inr ⟨rfl, hin, rfl⟩) dX7_init_158 (fun H locs hX hS => ?_)
  have hX := cw_put hX
  obtain ⟨f18, e18⟩ : ∃ f, f = f17.set 27 (.ref (G.2.2 148)) := ⟨_, rfl⟩
  have x18 : f18 = [.int 0, .ref (G.2.2 131), .int 0, .ref (G.2.2 132), .ref (G.2.2 133), .ref (G.2.2 134), .ref (G.2.2 135), .ref (G.2.2 136), .ref (G.2.2 137), .ref (G.2.2 138), .ref (G.2.2 139), .ref (G.2.2 140), .ref (G.2.2 141), .int 0, .int 0, .int 0, .int 0, .long 0, .long 0, .int 0, .ref (G.2.2 142), .int 0, .ref (G.2.2 143), .ref (G.2.2 144), .ref (G.2.2 145), .ref (G.2.2 146), .ref (G.2.2 147), .ref (G.2.2 148), .null, .null, .int 0, .int 0, .int 0, .int 0, .int 0, .int 0, .int 0, .int 0, .int 0, .int 0] := by rw [e18, x17]; rfl
  rw [← e18] at hX
  have l18 : f18.length = 40 := by rw [e18, List.length_set]; exact l17
  refine lv_aload_n hx hb dX7_init_161 rfl (lv_at hl 0 rfl) ?_
  refine lv_bipush (v := 6) hx hb dX7_init_162 (by decide) ?_
  refine cx_newi C hX hS (N := 6) (by decide) (by decide) (by decide) (Nat.le_of_ble_eq_true rfl) (Nat.le_of_ble_eq_true rfl) dX7_init_164 (fun H hX hS => ?_)
  have hX := cw_new hX (pc_i (show ko 149 = 10 from rfl) (show len 149 = 6 from rfl)) (by omega) (by omega)
  refine cx_put C hX hS (o := 130) (by omega) cw_h rfl 28 (by decide) (by rw [l18]; decide) rfl w_771 rfl rfl (Or.inr ⟨rfl, hin, rfl⟩) dX7_init_166 (fun H locs hX hS => ?_)
  have hX := cw_put hX
  obtain ⟨f19, e19⟩ : ∃ f, f = f18.set 28 (.ref (G.2.2 149)) := ⟨_, rfl⟩
  have x19 : f19 = [.int 0, .ref (G.2.2 131), .int 0, .ref (G.2.2 132), .ref (G.2.2 133), .ref (G.2.2 134), .ref (G.2.2 135), .ref (G.2.2 136), .ref (G.2.2 137), .ref (G.2.2 138), .ref (G.2.2 139), .ref (G.2.2 140), .ref (G.2.2 141), .int 0, .int 0, .int 0, .int 0, .long 0, .long 0, .int 0, .ref (G.2.2 142), .int 0, .ref (G.2.2 143), .ref (G.2.2 144), .ref (G.2.2 145), .ref (G.2.2 146), .ref (G.2.2 147), .ref (G.2.2 148), .ref (G.2.2 149), .null, .int 0, .int 0, .int 0, .int 0, .int 0, .int 0, .int 0, .int 0, .int 0, .int 0] := by rw [e19, x18]; rfl
  rw [← e19] at hX
  have l19 : f19.length = 40 := by rw [e19, List.length_set]; exact l18
  refine lv_aload_n hx hb dX7_init_169 rfl (lv_at hl 0 rfl) ?_
  refine lv_bipush (v := 6) hx hb dX7_init_170 (by decide) ?_
  refine cx_newi C hX hS (N := 6) (by decide) (by decide) (by decide) (Nat.le_of_ble_eq_true rfl) (Nat.le_of_ble_eq_true rfl) dX7_init_172 (fun H hX hS => ?_)
  have hX := cw_new hX (pc_i (show ko 150 = 10 from rfl) (show len 150 = 6 from rfl)) (by omega) (by omega)
  refine cx_put C hX hS (o := 130) (by omega) cw_h rfl 29 (by decide) (by rw [l19]; decide) rfl w_772 rfl rfl (Or.inr ⟨rfl, hin, rfl⟩) dX7_init_174 (fun H locs hX hS => ?_)
  have hX := cw_put hX
  obtain ⟨f20, e20⟩ : ∃ f, f = f19.set 29 (.ref (G.2.2 150)) := ⟨_, rfl⟩
  have x20 : f20 = [.int 0, .ref (G.2.2 131), .int 0, .ref (G.2.2 132), .ref (G.2.2 133), .ref (G.2.2 134), .ref (G.2.2 135), .ref (G.2.2 136), .ref (G.2.2 137), .ref (G.2.2 138), .ref (G.2.2 139), .ref (G.2.2 140), .ref (G.2.2 141), .int 0, .int 0, .int 0, .int 0, .long 0, .long 0, .int 0, .ref (G.2.2 142), .int 0, .ref (G.2.2 143), .ref (G.2.2 144), .ref (G.2.2 145), .ref (G.2.2 146), .ref (G.2.2 147), .ref (G.2.2 148), .ref (G.2.2 149), .ref (G.2.2 150), .int 0, .int 0, .int 0, .int 0, .int 0, .int 0, .int 0, .int 0, .int 0, .int 0] := by rw [e20, x19]; rfl
  rw [← e20] at hX
  have l20 : f20.length = 40 := by rw [e20, List.length_set]; exact l19
  exact cx_vret C hr hlocks (cw_fin (h := 130) (k := 21) hX (by rw [x20, pc_7]) (by omega)) hS dX7_init_177
