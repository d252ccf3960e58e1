theorem mw_X0_empty : MW yX0_empty cX0_empty 1 none 0 := ⟨w_425, w_7, by decide +kernel⟩
def wp_X0_empty (o : Nat) (T : St) (post : St → Prop) : Prop :=
  ∀ T1 : St, T1 = sv (sv (sv (sv (sv (sv (sv (sv (sv (sv T o 4 0) o 5 0) o 6 0) o 7 0) o 8 0) o 11 0) o 12 0) o 13 0) o 14 0) o 15 0 → (post T1)
set_option maxHeartbeats 4000000 in
set_option maxRecDepth 100000 in
theorem m_X0_empty (l : Launch) (G : Gm) (hi : Inj G) (o : Nat) (ho : ko o = 0) (T : St) (post : St → Prop) (hw : wp_X0_empty o T post) : Mv l yX0_empty cX0_empty 1 none 0 0 G [.ref (G.2.2 o)] T post := by
  refine sy_head hi (by decide) (Nat.le_of_ble_eq_true rfl) (lv := [(0, .ref (G.2.2 o))]) rfl ?_
  intro p e s m below meth c C hr hlocks hP hS ls hl
  have C : Cx p s m _ c cX0_empty 1 RX0 G := C
  obtain ⟨hx, hb, hml, hown, hg, hK, hN, -⟩ := id C
  unfold wp_X0_empty at hw
  refine lv_aload_n hx hb dX0_empty_0 rfl (lv_at hl 0 rfl) ?_
  refine lv_iconst (v := 0) hx hb dX0_empty_1 (by decide) ?_
  refine pf_X0_26 C hP hS (fun _ h => h) (o := o) ho dX0_empty_2 (fun H locs hP hS => ?_)
  refine lv_aload_n hx hb dX0_empty_5 rfl (lv_at hl 0 rfl) ?_
  refine lv_iconst (v := 0) hx hb dX0_empty_6 (by decide) ?_
  refine pf_X0_30 C hP hS (fun _ h => h) (o := o) ho dX0_empty_7 (fun H locs hP hS => ?_)
  refine lv_aload_n hx hb dX0_empty_10 rfl (lv_at hl 0 rfl) ?_
  refine lv_iconst (v := 0) hx hb dX0_empty_11 (by decide) ?_
  refine pf_X0_33 C hP hS (fun _ h => h) (o := o) ho dX0_empty_12 (fun H locs hP hS => ?_)
  refine lv_aload_n hx hb dX0_empty_15 rfl (lv_at hl 0 rfl) ?_
  refine lv_iconst (v := 0) hx hb dX0_empty_16 (by decide) ?_
  refine pf_X0_36 C hP hS (fun _ h => h) (o := o) ho dX0_empty_17 (fun H locs hP hS => ?_)
  refine lv_aload_n hx hb dX0_empty_20 rfl (lv_at hl 0 rfl) ?_
  refine lv_iconst (v := 0) hx hb dX0_empty_21 (by decide) ?_
  refine pf_X0_39 C hP hS (fun _ h => h) (o := o) ho dX0_empty_22 (fun H locs hP hS => ?_)
  refine lv_aload_n hx hb dX0_empty_25 rfl (lv_at hl 0 rfl) ?_
  refine lv_iconst (v := 0) hx hb dX0_empty_26 (by decide) ?_
  refine pf_X0_42 C hP hS (fun _ h => h) (o := o) ho dX0_empty_27 (fun H locs hP hS => ?_)
  refine lv_aload_n hx hb dX0_empty_30 rfl (lv_at hl 0 rfl) ?_
  refine lv_iconst (v := 0) hx hb dX0_empty_31 (by decide) ?_
  refine pf_X0_45 C hP hS (fun _ h => h) (o := o) ho dX0_empty_32 (fun H locs hP hS => ?_)
  refine lv_aload_n hx hb dX0_empty_35 rfl (lv_at hl 0 rfl) ?_
  refine lv_iconst (v := 0) hx hb dX0_empty_36 (by decide) ?_
  refine pf_X0_48 C hP hS (fun _ h => h) (o := o) ho dX0_empty_37 (fun H locs hP hS => ?_)
  refine lv_aload_n hx hb dX0_empty_40 rfl (lv_at hl 0 rfl) ?_
  refine lv_iconst (v := 0) hx hb dX0_empty_41 (by decide) ?_
  refine pf_X0_51 C hP hS (fun _ h => h) (o := o) ho dX0_empty_42 (fun H locs hP hS => ?_)
  refine lv_aload_n hx hb dX0_empty_45 rfl (lv_at hl 0 rfl) ?_
  refine lv_iconst (v := 0) hx hb dX0_empty_46 (by decide) ?_
  refine pf_X0_54 C hP hS (fun _ h => h) (o := o) ho dX0_empty_47 (fun H locs hP hS => ?_)
  obtain ⟨T1, eT1, hP⟩ := nameT (P := fun T => va_P G.1 sc_cl (wd G T) H) hP
  have hw := hw T1 eT1
  exact sy_vret C hr hlocks hP hS hw dX0_empty_50
theorem mw_X0_enter : MW yX0_enter cX0_enter 3 none 2 := ⟨w_429, w_7, by decide +kernel⟩
def wp_X0_enter (o : Nat) (a1 : Int32) (a2 : Int32) (T : St) (post : St → Prop) : Prop :=
  (6 ≤ T.1 o 4 → post T) ∧ (¬ 6 ≤ T.1 o 4 → vp_in (T.1 o 4) 6 ∧ (vp_in ((sv T (wi o) ((T.1 o 4).toNatClampNeg) a1).1 o 4) 6 ∧ (∀ T4 : St, T4 = sv (sv T (wi o) ((T.1 o 4).toNatClampNeg) a1) (wi o + 1) (((sv T (wi o) ((T.1 o 4).toNatClampNeg) a1).1 o 4).toNatClampNeg) a2 → (∀ T5 : St, T5 = sv (sv T4 o 4 ((T4.1 o 4) + 1)) o 5 (if (sv T4 o 4 ((T4.1 o 4) + 1)).1 o 5 < (sv T4 o 4 ((T4.1 o 4) + 1)).1 o 4 then (sv T4 o 4 ((T4.1 o 4) + 1)).1 o 4 else (sv T4 o 4 ((T4.1 o 4) + 1)).1 o 5) → (vp_in a1 10 ∧ (post (sv T5 o 8 (T5.1 (27 + 9 * a1.toNatClampNeg) 3))))))))
set_option maxHeartbeats 4000000 in
set_option maxRecDepth 100000 in
theorem m_X0_enter (l : Launch) (G : Gm) (hi : Inj G) (o : Nat) (a1 : Int32) (a2 : Int32) (ho : ko o = 0) (T : St) (post : St → Prop) (hw : wp_X0_enter o a1 a2 T post) : Mv l yX0_enter cX0_enter 3 none 1 40 G [.ref (G.2.2 o), .int a1, .int a2] T post := by
  refine sy_head hi (by decide) (Nat.le_of_ble_eq_true rfl) (lv := [(0, .ref (G.2.2 o)), (1, .int a1), (2, .int a2)]) rfl ?_
  intro p e s m below meth c C hr hlocks hP hS ls hl
  have C : Cx p s m _ c cX0_enter 3 RX0 G := C
  obtain ⟨hx, hb, hml, hown, hg, hK, hN, -⟩ := id C
  unfold wp_X0_enter at hw
  refine lv_aload_n hx hb dX0_enter_0 rfl (lv_at hl 0 rfl) ?_
  refine gf_X0_26 C hP (o := o) ho dX0_enter_1 ?_
  refine lv_bipush (v := 6) hx hb dX0_enter_4 (by decide) ?_
  refine lv_icmp_ge (tgt := 67) hx hb dX0_enter_6 (by decide) (fun hc1 => ?_) (fun hc1 => ?_)
  · have hw := hw.1 hc1
    exact sy_vret C hr hlocks hP hS hw dX0_enter_67
  · have hw := hw.2 hc1
    refine lv_aload_n hx hb dX0_enter_9 rfl (lv_at hl 0 rfl) ?_
    refine gf_X0_9 C hP (o := o) ho dX0_enter_10 ?_
    refine lv_aload_n hx hb dX0_enter_13 rfl (lv_at hl 0 rfl) ?_
    refine gf_X0_26 C hP (o := o) ho dX0_enter_14 ?_
    refine lv_iload_n hx hb dX0_enter_17 rfl (lv_at hl 1 rfl) ?_
    obtain ⟨hn2, hw⟩ := hw
    refine sy_iast C hP hS (fun _ h => h) (o := (wi o)) (ko_co ho).2.1.1 (ko_co ho).2.1.2 hn2 dX0_enter_18 (fun H locs hP hS => ?_)
    refine lv_aload_n hx hb dX0_enter_19 rfl (lv_at hl 0 rfl) ?_
    refine gf_X0_15 C hP (o := o) ho dX0_enter_20 ?_
    refine lv_aload_n hx hb dX0_enter_23 rfl (lv_at hl 0 rfl) ?_
    refine gf_X0_26 C hP (o := o) ho dX0_enter_24 ?_
    refine lv_iload_n hx hb dX0_enter_27 rfl (lv_at hl 2 rfl) ?_
    obtain ⟨hn3, hw⟩ := hw
    refine sy_iast C hP hS (fun _ h => h) (o := (wi o + 1)) (ko_co ho).2.2.1 (ko_co ho).2.2.2 hn3 dX0_enter_28 (fun H locs hP hS => ?_)
    obtain ⟨T4, eT4, hP⟩ := nameT (P := fun T => va_P G.1 sc_cl (wd G T) H) hP
    have hw := hw T4 eT4
    refine lv_aload_n hx hb dX0_enter_29 rfl (lv_at hl 0 rfl) ?_
    refine lv_dup hx hb dX0_enter_30 rfl ?_
    refine gf_X0_26 C hP (o := o) ho dX0_enter_31 ?_
    refine lv_iconst (v := 1) hx hb dX0_enter_34 (by decide) ?_
    refine lv_iadd hx hb dX0_enter_35 ?_
    refine pf_X0_26 C hP hS (fun _ h => h) (o := o) ho dX0_enter_36 (fun H locs hP hS => ?_)
    refine lv_aload_n hx hb dX0_enter_39 rfl (lv_at hl 0 rfl) ?_
    refine lv_aload_n hx hb dX0_enter_40 rfl (lv_at hl 0 rfl) ?_
    refine gf_X0_30 C hP (o := o) ho dX0_enter_41 ?_
    refine lv_aload_n hx hb dX0_enter_44 rfl (lv_at hl 0 rfl) ?_
    refine gf_X0_26 C hP (o := o) ho dX0_enter_45 ?_
    refine va_mmax hx hb (by rw [hml, hl.1]) hown (hg _ w_430) (hg _ w_431) (hg _ w_17) (hg _ w_432) (Nat.le_of_ble_eq_true rfl) (Nat.le_of_ble_eq_true rfl) (Nat.zero_le _) (Nat.zero_le _) dX0_enter_48 ?_
    refine pf_X0_30 C hP hS (fun _ h => h) (o := o) ho dX0_enter_51 (fun H locs hP hS => ?_)
    obtain ⟨T5, eT5, hP⟩ := nameT (P := fun T => va_P G.1 sc_cl (wd G T) H) hP
    have hw := hw T5 eT5
    refine lv_aload_n hx hb dX0_enter_54 rfl (lv_at hl 0 rfl) ?_
    refine lv_aload_n hx hb dX0_enter_55 rfl (lv_at hl 0 rfl) ?_
    refine gf_X0_22 C hP (o := o) ho dX0_enter_56 ?_
    refine lv_iload_n hx hb dX0_enter_59 rfl (lv_at hl 1 rfl) ?_
    obtain ⟨hn6, hw⟩ := hw
    refine sy_aldR C hP hn6 dX0_enter_60 ?_
    refine gf_X0_97 C hP (o := (27 + 9 * a1.toNatClampNeg)) (ko_ro hn6) dX0_enter_61 ?_
    refine pf_X0_39 C hP hS (fun _ h => h) (o := o) ho dX0_enter_64 (fun H locs hP hS => ?_)
    exact sy_vret C hr hlocks hP hS hw dX0_enter_67
theorem mw_X0_begin : MW yX0_begin cX0_begin 4 none 3 := ⟨w_421, w_7, by decide +kernel⟩
def wp_X0_begin (o : Nat) (a1 : Int32) (a2 : Int32) (a3 : Int32) (T : St) (post : St → Prop) : Prop :=
  wp_X0_empty o T (fun T1 => wp_X0_enter o a1 0 (sv (sv T1 o 6 a2) o 7 a3) (fun T3 => post T3))
set_option maxHeartbeats 4000000 in
set_option maxRecDepth 100000 in
theorem m_X0_begin (l : Launch) (G : Gm) (hi : Inj G) (o : Nat) (a1 : Int32) (a2 : Int32) (a3 : Int32) (ho : ko o = 0) (T : St) (post : St → Prop) (hw : wp_X0_begin o a1 a2 a3 T post) : Mv l yX0_begin cX0_begin 4 none 2 62 G [.ref (G.2.2 o), .int a1, .int a2, .int a3] T post := by
  refine sy_head hi (by decide) (Nat.le_of_ble_eq_true rfl) (lv := [(0, .ref (G.2.2 o)), (1, .int a1), (2, .int a2), (3, .int a3)]) rfl ?_
  intro p e s m below meth c C hr hlocks hP hS ls hl
  have C : Cx p s m _ c cX0_begin 4 RX0 G := C
  obtain ⟨hx, hb, hml, hown, hg, hK, hN, -⟩ := id C
  unfold wp_X0_begin at hw
  refine lv_aload_n hx hb dX0_begin_0 rfl (lv_at hl 0 rfl) ?_
  refine sy_gov (sy_runV C hP ho rfl (m_X0_empty l G hi _ ho _ _ hw) mw_X0_empty w_423 w_424 w_422 (rest := []) rfl hl.1 rfl (Nat.le_of_ble_eq_true rfl) ⟨Nat.le_of_ble_eq_true rfl, Nat.le_of_ble_eq_true rfl⟩ dX0_begin_1 ⟨Nat.zero_le _, Nat.zero_le _⟩) hS (fun _ h => h) (fun T1 H locs hw hP hS => ?_)
  refine lv_aload_n hx hb dX0_begin_4 rfl (lv_at hl 0 rfl) ?_
  refine lv_iload_n hx hb dX0_begin_5 rfl (lv_at hl 2 rfl) ?_
  refine pf_X0_33 C hP hS (fun _ h => h) (o := o) ho dX0_begin_6 (fun H locs hP hS => ?_)
  refine lv_aload_n hx hb dX0_begin_9 rfl (lv_at hl 0 rfl) ?_
  refine lv_iload_n hx hb dX0_begin_10 rfl (lv_at hl 3 rfl) ?_
  refine pf_X0_36 C hP hS (fun _ h => h) (o := o) ho dX0_begin_11 (fun H locs hP hS => ?_)
  refine lv_aload_n hx hb dX0_begin_14 rfl (lv_at hl 0 rfl) ?_
  refine lv_iload_n hx hb dX0_begin_15 rfl (lv_at hl 1 rfl) ?_
  refine lv_iconst (v := 0) hx hb dX0_begin_16 (by decide) ?_
  refine sy_gov (sy_runV C hP ho rfl (m_X0_enter l G hi _ _ _ ho _ _ hw) mw_X0_enter w_428 ws_12 w_426 (rest := []) rfl hl.1 rfl (Nat.le_of_ble_eq_true rfl) ⟨Nat.le_of_ble_eq_true rfl, Nat.le_of_ble_eq_true rfl⟩ dX0_begin_17 ⟨Nat.zero_le _, Nat.zero_le _⟩) hS (fun _ h => h) (fun T3 H locs hw hP hS => ?_)
  exact sy_vret C hr hlocks hP hS hw dX0_begin_20
theorem mw_X0_steps : MW yX0_steps cX0_steps 1 (some .int) 0 := ⟨w_484, w_7, by decide +kernel⟩
def wp_X0_steps (o : Nat) (T : St) (post : Int32 → St → Prop) : Prop :=
  post ((T.1 o 11) + (T.1 o 12)) T
set_option maxHeartbeats 4000000 in
set_option maxRecDepth 100000 in
theorem m_X0_steps (l : Launch) (G : Gm) (hi : Inj G) (o : Nat) (ho : ko o = 0) (T : St) (post : Int32 → St → Prop) (hw : wp_X0_steps o T post) : Mi l yX0_steps cX0_steps 1 (some .int) 0 0 G [.ref (G.2.2 o)] T post := by
  refine sy_head hi (by decide) (Nat.le_of_ble_eq_true rfl) (lv := [(0, .ref (G.2.2 o))]) rfl ?_
  intro p e s m below meth c C hr hlocks hP hS ls hl
  have C : Cx p s m _ c cX0_steps 1 RX0 G := C
  obtain ⟨hx, hb, hml, hown, hg, hK, hN, -⟩ := id C
  unfold wp_X0_steps at hw
  refine lv_aload_n hx hb dX0_steps_0 rfl (lv_at hl 0 rfl) ?_
  refine gf_X0_42 C hP (o := o) ho dX0_steps_1 ?_
  refine lv_aload_n hx hb dX0_steps_4 rfl (lv_at hl 0 rfl) ?_
  refine gf_X0_45 C hP (o := o) ho dX0_steps_5 ?_
  refine lv_iadd hx hb dX0_steps_8 ?_
  exact sy_iret C hr hlocks hP hS hw dX0_steps_9
theorem mw_X4_hasLive : MW yX4_hasLive cX4_hasLive 2 (some .boolean) 1 := ⟨w_349, w_3, by decide +kernel⟩
def wp_X4_hasLive (o : Nat) (a1 : Int32) (T : St) (post : Int32 → St → Prop) : Prop :=
  (((T.1 o 2) >>> (a1 &&& 31)) &&& 1 = 0 → post 0 T) ∧ (¬ ((T.1 o 2) >>> (a1 &&& 31)) &&& 1 = 0 → post 1 T)
set_option maxHeartbeats 4000000 in
set_option maxRecDepth 100000 in
theorem m_X4_hasLive (l : Launch) (G : Gm) (hi : Inj G) (o : Nat) (a1 : Int32) (ho : ko o = 4) (T : St) (post : Int32 → St → Prop) (hw : wp_X4_hasLive o a1 T post) : Mi l yX4_hasLive cX4_hasLive 2 (some .boolean) 0 0 G [.ref (G.2.2 o), .int a1] T post := by
  refine sy_head hi (by decide) (Nat.le_of_ble_eq_true rfl) (lv := [(0, .ref (G.2.2 o)), (1, .int a1)]) rfl ?_
  intro p e s m below meth c C hr hlocks hP hS ls hl
  have C : Cx p s m _ c cX4_hasLive 2 RX4 G := C
  obtain ⟨hx, hb, hml, hown, hg, hK, hN, -⟩ := id C
  unfold wp_X4_hasLive at hw
  refine lv_aload_n hx hb dX4_hasLive_0 rfl (lv_at hl 0 rfl) ?_
  refine gf_X4_23 C hP (o := o) ho dX4_hasLive_1 ?_
  refine lv_iload_n hx hb dX4_hasLive_4 rfl (lv_at hl 1 rfl) ?_
  refine lv_ishr hx hb dX4_hasLive_5 ?_
  refine lv_iconst (v := 1) hx hb dX4_hasLive_6 (by decide) ?_
  refine lv_iand hx hb dX4_hasLive_7 ?_
  refine lv_if_eq (tgt := 15) hx hb dX4_hasLive_8 (by decide) (fun hc1 => ?_) (fun hc1 => ?_)
  · have hw := hw.1 hc1
    refine lv_iconst (v := 0) hx hb dX4_hasLive_15 (by decide) ?_
    exact sy_zret C hr hlocks hP hS rfl hw dX4_hasLive_16
  · have hw := hw.2 hc1
    refine lv_iconst (v := 1) hx hb dX4_hasLive_11 (by decide) ?_
    refine lv_goto (tgt := 16) hx hb dX4_hasLive_12 (by decide) ?_
    exact sy_zret C hr hlocks hP hS rfl hw dX4_hasLive_16
theorem mw_X3_indexOf : MW yX3_indexOf cX3_indexOf 3 (some .int) 1 := ⟨w_365, w_5, by decide +kernel⟩
def wb_X3_indexOf_2 (o : Nat) (a1 : Int32) (k3 : (Int32) → St → Prop) (v2_1 : Int32) (T2 : St) (post : Int32 → St → Prop) : Prop :=
 (T2.1 o 3 ≤ v2_1 → post (-1) T2) ∧ (¬ T2.1 o 3 ≤ v2_1 → vp_in v2_1 24 ∧ ((¬ T2.1 (o + 1) v2_1.toNatClampNeg = a1 → k3 (v2_1 + 1) T2) ∧ (T2.1 (o + 1) v2_1.toNatClampNeg = a1 → post v2_1 T2)))
def wp_X3_indexOf (o : Nat) (a1 : Int32) (T : St) (post : Int32 → St → Prop) : Prop :=
  LW (fun kl (vl : Int32) Tl => wb_X3_indexOf_2 o a1 kl vl Tl post) 0 T
set_option maxHeartbeats 4000000 in
set_option maxRecDepth 100000 in
theorem m_X3_indexOf (l : Launch) (G : Gm) (hi : Inj G) (o : Nat) (a1 : Int32) (ho : ko o = 3) (T : St) (post : Int32 → St → Prop) (hw : wp_X3_indexOf o a1 T post) : Mi l yX3_indexOf cX3_indexOf 3 (some .int) 0 0 G [.ref (G.2.2 o), .int a1] T post := by
  refine sy_head hi (by decide) (Nat.le_of_ble_eq_true rfl) (lv := [(0, .ref (G.2.2 o)), (1, .int a1)]) rfl ?_
  intro p e s m below meth c C hr hlocks hP hS ls hl
  have C : Cx p s m _ c cX3_indexOf 3 RX3 G := C
  obtain ⟨hx, hb, hml, hown, hg, hK, hN, -⟩ := id C
  unfold wp_X3_indexOf at hw
  refine lv_iconst (v := 0) hx hb dX3_indexOf_0 (by decide) ?_
  refine lv_istore_n (lv' := [(2, .int 0), (0, .ref (G.2.2 o)), (1, .int a1)]) hx hb dX3_indexOf_1 rfl hl (by decide) rfl (fun ls hl => ?_)
  obtain ⟨I4, u5, hI, hst6⟩ := hw
  have L9 : ∀ (n : Nat) (v2_1 : Int32) (T2 : St), I4 v2_1 T2 → u5 v2_1 T2 < n → ∀ (H : Heap) (locs : List Loc), va_P G.1 sc_cl (wd G T2) H → va_S (SA G) s.heap H locs → ∀ ls : Array Slot, lv_has ls 3 [(2, .int v2_1), (0, .ref (G.2.2 o)), (1, .int a1)] → W p l e { frames := 0, cells := 0, slots := 0, locals := 0 } s m ([.ref (G.2.2 o), .int a1] : List Value).toArray below meth c H locs 0 0 (MQ below (va_Qi post (Sy G) (SA G)) ([.ref (G.2.2 o), .int a1] : List Value).toArray s 0 0 (SA G)) (F0 m 2 ls []) := by
    intro n
    induction n with
    | zero => intro _ _ _ h; exact absurd h (Nat.not_lt_zero _)
    | succ n ih7 =>
      intro v2_1 T2 hI hlt8 H locs hP hS ls hl
      have hw := hst6 v2_1 T2 hI
      unfold wb_X3_indexOf_2 at hw
      refine lv_iload_n hx hb dX3_indexOf_2 rfl (lv_at hl 0 rfl) ?_
      refine lv_aload_n hx hb dX3_indexOf_3 rfl (lv_at hl 1 rfl) ?_
      refine gf_X3_21 C hP (o := o) ho dX3_indexOf_4 ?_
      refine lv_icmp_ge (tgt := 28) hx hb dX3_indexOf_7 (by decide) (fun hc10 => ?_) (fun hc10 => ?_)
      · have hw := hw.1 hc10
        refine lv_iconst (v := (-1)) hx hb dX3_indexOf_28 (by decide) ?_
        exact sy_iret C hr hlocks hP hS hw dX3_indexOf_29
      · have hw := hw.2 hc10
        refine lv_aload_n hx hb dX3_indexOf_10 rfl (lv_at hl 1 rfl) ?_
        refine gf_X3_9 C hP (o := o) ho dX3_indexOf_11 ?_
        refine lv_iload_n hx hb dX3_indexOf_14 rfl (lv_at hl 0 rfl) ?_
        obtain ⟨hn11, hw⟩ := hw
        refine sy_iald C hP (o := (o + 1)) (ko_mem ho).1.1 (ko_mem ho).1.2 hn11 dX3_indexOf_15 ?_
        refine lv_iload_n hx hb dX3_indexOf_16 rfl (lv_at hl 2 rfl) ?_
        refine lv_icmp_ne (tgt := 22) hx hb dX3_indexOf_17 (by decide) (fun hc12 => ?_) (fun hc12 => ?_)
        · have hw := hw.1 hc12
          refine lv_iinc (v := v2_1 + 1) (lv' := [(2, .int (v2_1 + 1)), (0, .ref (G.2.2 o)), (1, .int a1)]) hx hb dX3_indexOf_22 hl (k := 0) rfl rfl (by decide) rfl (fun ls hl => ?_)
          refine lv_goto (tgt := 2) hx hb dX3_indexOf_25 (by decide) ?_
          exact ih7 _ _ hw.1 (Nat.lt_of_lt_of_le hw.2 (Nat.le_of_lt_succ hlt8)) _ _ hP hS ls (lv_sub hl [0, 1, 2] rfl)
        · have hw := hw.2 hc12
          refine lv_iload_n hx hb dX3_indexOf_20 rfl (lv_at hl 0 rfl) ?_
          exact sy_iret C hr hlocks hP hS hw dX3_indexOf_21
  exact L9 _ _ _ hI (Nat.lt_succ_self _) _ _ hP hS ls (lv_sub hl [0, 1, 2] rfl)
theorem mw_X0_fetchFromMember : MW yX0_fetchFromMember cX0_fetchFromMember 3 (some .boolean) 0 := ⟨w_444, w_7, by decide +kernel⟩
def wp_X0_fetchFromMember (o : Nat) (T : St) (post : Int32 → St → Prop) : Prop :=
  (T.1 o 4 < 1 → post 0 T) ∧ (¬ T.1 o 4 < 1 → vp_in ((T.1 o 4) - 1) 6 ∧ (wp_X4_hasLive (mo o) (T.1 (wi o) ((T.1 o 4) - 1).toNatClampNeg) T (fun r4 T3 => (¬ r4 = 0 → vp_in ((T3.1 o 4) - 1) 6 ∧ (vp_in (T3.1 (wi o) ((T3.1 o 4) - 1).toNatClampNeg) 10 ∧ (wp_X3_indexOf (mb (27 + 9 * (T3.1 (wi o) ((T3.1 o 4) - 1).toNatClampNeg).toNatClampNeg) ((T3).1 (27 + 9 * (T3.1 (wi o) ((T3.1 o 4) - 1).toNatClampNeg).toNatClampNeg) 0)) (T3.1 o 8) T3 (fun r9 T8 => (0 ≤ r9 → vp_in r9 24 ∧ (∀ T12 : St, T12 = sv T8 o 9 (T8.1 ((mb (27 + 9 * (T3.1 (wi o) ((T3.1 o 4) - 1).toNatClampNeg).toNatClampNeg) ((T3).1 (27 + 9 * (T3.1 (wi o) ((T3.1 o 4) - 1).toNatClampNeg).toNatClampNeg) 0)) + 2) r9.toNatClampNeg) → (vp_in r9 24 ∧ (∀ T14 : St, T14 = sv T12 o 10 (T12.1 ((mb (27 + 9 * (T3.1 (wi o) ((T3.1 o 4) - 1).toNatClampNeg).toNatClampNeg) ((T3).1 (27 + 9 * (T3.1 (wi o) ((T3.1 o 4) - 1).toNatClampNeg).toNatClampNeg) 0)) + 3) r9.toNatClampNeg) → (post 1 T14))))) ∧ (¬ 0 ≤ r9 → post 0 T8))))) ∧ (r4 = 0 → post 0 T3))))
set_option maxHeartbeats 4000000 in
set_option maxRecDepth 100000 in
theorem m_X0_fetchFromMember (l : Launch) (G : Gm) (hi : Inj G) (o : Nat) (ho : ko o = 0) (T : St) (post : Int32 → St → Prop) (hw : wp_X0_fetchFromMember o T post) : Mi l yX0_fetchFromMember cX0_fetchFromMember 3 (some .boolean) 1 22 G [.ref (G.2.2 o)] T post := by
  refine sy_head hi (by decide) (Nat.le_of_ble_eq_true rfl) (lv := [(0, .ref (G.2.2 o))]) rfl ?_
  intro p e s m below meth c C hr hlocks hP hS ls hl
  have C : Cx p s m _ c cX0_fetchFromMember 3 RX0 G := C
  obtain ⟨hx, hb, hml, hown, hg, hK, hN, -⟩ := id C
  unfold wp_X0_fetchFromMember at hw
  refine lv_aload_n hx hb dX0_fetchFromMember_0 rfl (lv_at hl 0 rfl) ?_
  refine gf_X0_26 C hP (o := o) ho dX0_fetchFromMember_1 ?_
  refine lv_iconst (v := 1) hx hb dX0_fetchFromMember_4 (by decide) ?_
  refine lv_icmp_lt (tgt := 29) hx hb dX0_fetchFromMember_5 (by decide) (fun hc1 => ?_) (fun hc1 => ?_)
  · have hw := hw.1 hc1
    refine lv_iconst (v := 0) hx hb dX0_fetchFromMember_29 (by decide) ?_
    exact sy_zret C hr hlocks hP hS rfl hw dX0_fetchFromMember_30
  · have hw := hw.2 hc1
    refine lv_aload_n hx hb dX0_fetchFromMember_8 rfl (lv_at hl 0 rfl) ?_
    refine gf_X0_18 C hP (o := o) ho dX0_fetchFromMember_9 ?_
    refine lv_aload_n hx hb dX0_fetchFromMember_12 rfl (lv_at hl 0 rfl) ?_
    refine gf_X0_9 C hP (o := o) ho dX0_fetchFromMember_13 ?_
    refine lv_aload_n hx hb dX0_fetchFromMember_16 rfl (lv_at hl 0 rfl) ?_
    refine gf_X0_26 C hP (o := o) ho dX0_fetchFromMember_17 ?_
    refine lv_iconst (v := 1) hx hb dX0_fetchFromMember_20 (by decide) ?_
    refine lv_isub hx hb dX0_fetchFromMember_21 ?_
    obtain ⟨hn2, hw⟩ := hw
    refine sy_iald C hP (o := (wi o)) (ko_co ho).2.1.1 (ko_co ho).2.1.2 hn2 dX0_fetchFromMember_22 ?_
    refine sy_goi (sy_runV C hP (ko_co ho).1 rfl (m_X4_hasLive l G hi _ _ (ko_co ho).1 _ _ hw) mw_X4_hasLive w_347 w_348 w_445 (rest := []) rfl hl.1 rfl (Nat.le_of_ble_eq_true rfl) ⟨Nat.le_of_ble_eq_true rfl, Nat.le_of_ble_eq_true rfl⟩ dX0_fetchFromMember_23 ⟨Nat.zero_le _, Nat.zero_le _⟩) hS (fun _ h => h) (fun r4 T3 H locs hw hP hS => ?_)
    refine lv_if_ne (tgt := 31) hx hb dX0_fetchFromMember_26 (by decide) (fun hc5 => ?_) (fun hc5 => ?_)
    · have hw := hw.1 hc5
      refine lv_aload_n hx hb dX0_fetchFromMember_31 rfl (lv_at hl 0 rfl) ?_
      refine gf_X0_22 C hP (o := o) ho dX0_fetchFromMember_32 ?_
      refine lv_aload_n hx hb dX0_fetchFromMember_35 rfl (lv_at hl 0 rfl) ?_
      refine gf_X0_9 C hP (o := o) ho dX0_fetchFromMember_36 ?_
      refine lv_aload_n hx hb dX0_fetchFromMember_39 rfl (lv_at hl 0 rfl) ?_
      refine gf_X0_26 C hP (o := o) ho dX0_fetchFromMember_40 ?_
      refine lv_iconst (v := 1) hx hb dX0_fetchFromMember_43 (by decide) ?_
      refine lv_isub hx hb dX0_fetchFromMember_44 ?_
      obtain ⟨hn6, hw⟩ := hw
      refine sy_iald C hP (o := (wi o)) (ko_co ho).2.1.1 (ko_co ho).2.1.2 hn6 dX0_fetchFromMember_45 ?_
      obtain ⟨hn7, hw⟩ := hw
      refine sy_aldR C hP hn7 dX0_fetchFromMember_46 ?_
      refine gf_X0_138 C hP (o := (27 + 9 * (T3.1 (wi o) ((T3.1 o 4) - 1).toNatClampNeg).toNatClampNeg)) (ko_ro hn7) dX0_fetchFromMember_47 ?_
      refine lv_astore_n (lv' := [(1, .ref (G.2.2 (mb (27 + 9 * (T3.1 (wi o) ((T3.1 o 4) - 1).toNatClampNeg).toNatClampNeg) ((T3).1 (27 + 9 * (T3.1 (wi o) ((T3.1 o 4) - 1).toNatClampNeg).toNatClampNeg) 0)))), (0, .ref (G.2.2 o))]) hx hb dX0_fetchFromMember_50 rfl hl (by decide) rfl (fun ls hl => ?_)
      refine lv_aload_n hx hb dX0_fetchFromMember_51 rfl (lv_at hl 0 rfl) ?_
      refine lv_aload_n hx hb dX0_fetchFromMember_52 rfl (lv_at hl 1 rfl) ?_
      refine gf_X0_39 C hP (o := o) ho dX0_fetchFromMember_53 ?_
      refine sy_goi (sy_runV C hP (ko_mb (ko_ro hn7) _) rfl (m_X3_indexOf l G hi _ _ (ko_mb (ko_ro hn7) _) _ _ hw) mw_X3_indexOf w_363 w_364 w_446 (rest := []) rfl hl.1 rfl (Nat.le_of_ble_eq_true rfl) ⟨Nat.le_of_ble_eq_true rfl, Nat.le_of_ble_eq_true rfl⟩ dX0_fetchFromMember_56 ⟨Nat.zero_le _, Nat.zero_le _⟩) hS (fun _ h => h) (fun r9 T8 H locs hw hP hS => ?_)
      refine lv_istore_n (lv' := [(2, .int r9), (1, .ref (G.2.2 (mb (27 + 9 * (T3.1 (wi o) ((T3.1 o 4) - 1).toNatClampNeg).toNatClampNeg) ((T3).1 (27 + 9 * (T3.1 (wi o) ((T3.1 o 4) - 1).toNatClampNeg).toNatClampNeg) 0)))), (0, .ref (G.2.2 o))]) hx hb dX0_fetchFromMember_59 rfl hl (by decide) rfl (fun ls hl => ?_)
      refine lv_iload_n hx hb dX0_fetchFromMember_60 rfl (lv_at hl 0 rfl) ?_
      refine lv_if_ge (tgt := 66) hx hb dX0_fetchFromMember_61 (by decide) (fun hc10 => ?_) (fun hc10 => ?_)
      · have hw := hw.1 hc10
        refine lv_aload_n hx hb dX0_fetchFromMember_66 rfl (lv_at hl 2 rfl) ?_
        refine lv_aload_n hx hb dX0_fetchFromMember_67 rfl (lv_at hl 1 rfl) ?_
        refine gf_X0_147 C hP (o := (mb (27 + 9 * (T3.1 (wi o) ((T3.1 o 4) - 1).toNatClampNeg).toNatClampNeg) ((T3).1 (27 + 9 * (T3.1 (wi o) ((T3.1 o 4) - 1).toNatClampNeg).toNatClampNeg) 0))) (ko_mb (ko_ro hn7) _) dX0_fetchFromMember_68 ?_
        refine lv_iload_n hx hb dX0_fetchFromMember_71 rfl (lv_at hl 0 rfl) ?_
        obtain ⟨hn11, hw⟩ := hw
        refine sy_iald C hP (o := ((mb (27 + 9 * (T3.1 (wi o) ((T3.1 o 4) - 1).toNatClampNeg).toNatClampNeg) ((T3).1 (27 + 9 * (T3.1 (wi o) ((T3.1 o 4) - 1).toNatClampNeg).toNatClampNeg) 0)) + 2)) (ko_mem (ko_mb (ko_ro hn7) _)).2.1.1 (ko_mem (ko_mb (ko_ro hn7) _)).2.1.2 hn11 dX0_fetchFromMember_72 ?_
        refine pf_X0_107 C hP hS (fun _ h => h) (o := o) ho dX0_fetchFromMember_73 (fun H locs hP hS => ?_)
        obtain ⟨T12, eT12, hP⟩ := nameT (P := fun T => va_P G.1 sc_cl (wd G T) H) hP
        have hw := hw T12 eT12
        refine lv_aload_n hx hb dX0_fetchFromMember_76 rfl (lv_at hl 2 rfl) ?_
        refine lv_aload_n hx hb dX0_fetchFromMember_77 rfl (lv_at hl 1 rfl) ?_
        refine gf_X0_150 C hP (o := (mb (27 + 9 * (T3.1 (wi o) ((T3.1 o 4) - 1).toNatClampNeg).toNatClampNeg) ((T3).1 (27 + 9 * (T3.1 (wi o) ((T3.1 o 4) - 1).toNatClampNeg).toNatClampNeg) 0))) (ko_mb (ko_ro hn7) _) dX0_fetchFromMember_78 ?_
        refine lv_iload_n hx hb dX0_fetchFromMember_81 rfl (lv_at hl 0 rfl) ?_
        obtain ⟨hn13, hw⟩ := hw
        refine sy_iald C hP (o := ((mb (27 + 9 * (T3.1 (wi o) ((T3.1 o 4) - 1).toNatClampNeg).toNatClampNeg) ((T3).1 (27 + 9 * (T3.1 (wi o) ((T3.1 o 4) - 1).toNatClampNeg).toNatClampNeg) 0)) + 3)) (ko_mem (ko_mb (ko_ro hn7) _)).2.2.1 (ko_mem (ko_mb (ko_ro hn7) _)).2.2.2 hn13 dX0_fetchFromMember_82 ?_
        refine pf_X0_110 C hP hS (fun _ h => h) (o := o) ho dX0_fetchFromMember_83 (fun H locs hP hS => ?_)
        obtain ⟨T14, eT14, hP⟩ := nameT (P := fun T => va_P G.1 sc_cl (wd G T) H) hP
        have hw := hw T14 eT14
        refine lv_iconst (v := 1) hx hb dX0_fetchFromMember_86 (by decide) ?_
        exact sy_zret C hr hlocks hP hS rfl hw dX0_fetchFromMember_87
      · have hw := hw.2 hc10
        refine lv_iconst (v := 0) hx hb dX0_fetchFromMember_64 (by decide) ?_
        exact sy_zret C hr hlocks hP hS rfl hw dX0_fetchFromMember_65
    · have hw := hw.2 hc5
      refine lv_iconst (v := 0) hx hb dX0_fetchFromMember_29 (by decide) ?_
      exact sy_zret C hr hlocks hP hS rfl hw dX0_fetchFromMember_30
theorem mw_X6_isKind : MW yX6_isKind cX6_isKind 1 (some .boolean) 1 := ⟨w_372, w_1, by decide +kernel⟩
def wp_X6_isKind (a1 : Int32) (T : St) (post : Int32 → St → Prop) : Prop :=
  (a1 < 0 → post 0 T) ∧ (¬ a1 < 0 → (12 < a1 → post 0 T) ∧ (¬ 12 < a1 → post 1 T))
set_option maxHeartbeats 4000000 in
set_option maxRecDepth 100000 in
theorem m_X6_isKind (l : Launch) (G : Gm) (hi : Inj G) (a1 : Int32)  (T : St) (post : Int32 → St → Prop) (hw : wp_X6_isKind a1 T post) : Mi l yX6_isKind cX6_isKind 1 (some .boolean) 0 0 G [.int a1] T post := by
  refine sy_head hi (by decide) (Nat.le_of_ble_eq_true rfl) (lv := [(0, .int a1)]) rfl ?_
  intro p e s m below meth c C hr hlocks hP hS ls hl
  have C : Cx p s m _ c cX6_isKind 1 RX6 G := C
  obtain ⟨hx, hb, hml, hown, hg, hK, hN, -⟩ := id C
  unfold wp_X6_isKind at hw
  refine lv_iload_n hx hb dX6_isKind_0 rfl (lv_at hl 0 rfl) ?_
  refine lv_if_lt (tgt := 14) hx hb dX6_isKind_1 (by decide) (fun hc1 => ?_) (fun hc1 => ?_)
  · have hw := hw.1 hc1
    refine lv_iconst (v := 0) hx hb dX6_isKind_14 (by decide) ?_
    exact sy_zret C hr hlocks hP hS rfl hw dX6_isKind_15
  · have hw := hw.2 hc1
    refine lv_iload_n hx hb dX6_isKind_4 rfl (lv_at hl 0 rfl) ?_
    refine lv_bipush (v := 12) hx hb dX6_isKind_5 (by decide) ?_
    refine lv_icmp_gt (tgt := 14) hx hb dX6_isKind_7 (by decide) (fun hc2 => ?_) (fun hc2 => ?_)
    · have hw := hw.1 hc2
      refine lv_iconst (v := 0) hx hb dX6_isKind_14 (by decide) ?_
      exact sy_zret C hr hlocks hP hS rfl hw dX6_isKind_15
    · have hw := hw.2 hc2
      refine lv_iconst (v := 1) hx hb dX6_isKind_10 (by decide) ?_
      refine lv_goto (tgt := 15) hx hb dX6_isKind_11 (by decide) ?_
      exact sy_zret C hr hlocks hP hS rfl hw dX6_isKind_15
theorem mw_X6_hasOperand : MW yX6_hasOperand cX6_hasOperand 1 (some .boolean) 1 := ⟨w_321, w_1, by decide +kernel⟩
def wp_X6_hasOperand (a1 : Int32) (T : St) (post : Int32 → St → Prop) : Prop :=
  (a1 = 1 → post 1 T) ∧ (¬ a1 = 1 → (a1 = 2 → post 1 T) ∧ (¬ a1 = 2 → (a1 < 4 → post 0 T) ∧ (¬ a1 < 4 → (9 < a1 → post 0 T) ∧ (¬ 9 < a1 → post 1 T))))
set_option maxHeartbeats 4000000 in
set_option maxRecDepth 100000 in
theorem m_X6_hasOperand (l : Launch) (G : Gm) (hi : Inj G) (a1 : Int32)  (T : St) (post : Int32 → St → Prop) (hw : wp_X6_hasOperand a1 T post) : Mi l yX6_hasOperand cX6_hasOperand 1 (some .boolean) 0 0 G [.int a1] T post := by
  refine sy_head hi (by decide) (Nat.le_of_ble_eq_true rfl) (lv := [(0, .int a1)]) rfl ?_
  intro p e s m below meth c C hr hlocks hP hS ls hl
  have C : Cx p s m _ c cX6_hasOperand 1 RX6 G := C
  obtain ⟨hx, hb, hml, hown, hg, hK, hN, -⟩ := id C
  unfold wp_X6_hasOperand at hw
  refine lv_iload_n hx hb dX6_hasOperand_0 rfl (lv_at hl 0 rfl) ?_
  refine lv_iconst (v := 1) hx hb dX6_hasOperand_1 (by decide) ?_
  refine lv_icmp_eq (tgt := 21) hx hb dX6_hasOperand_2 (by decide) (fun hc1 => ?_) (fun hc1 => ?_)
  · have hw := hw.1 hc1
    refine lv_iconst (v := 1) hx hb dX6_hasOperand_21 (by decide) ?_
    refine lv_goto (tgt := 26) hx hb dX6_hasOperand_22 (by decide) ?_
    exact sy_zret C hr hlocks hP hS rfl hw dX6_hasOperand_26
  · have hw := hw.2 hc1
    refine lv_iload_n hx hb dX6_hasOperand_5 rfl (lv_at hl 0 rfl) ?_
    refine lv_iconst (v := 2) hx hb dX6_hasOperand_6 (by decide) ?_
    refine lv_icmp_eq (tgt := 21) hx hb dX6_hasOperand_7 (by decide) (fun hc2 => ?_) (fun hc2 => ?_)
    · have hw := hw.1 hc2
      refine lv_iconst (v := 1) hx hb dX6_hasOperand_21 (by decide) ?_
      refine lv_goto (tgt := 26) hx hb dX6_hasOperand_22 (by decide) ?_
      exact sy_zret C hr hlocks hP hS rfl hw dX6_hasOperand_26
    · have hw := hw.2 hc2
      refine lv_iload_n hx hb dX6_hasOperand_10 rfl (lv_at hl 0 rfl) ?_
      refine lv_iconst (v := 4) hx hb dX6_hasOperand_11 (by decide) ?_
      refine lv_icmp_lt (tgt := 25) hx hb dX6_hasOperand_12 (by decide) (fun hc3 => ?_) (fun hc3 => ?_)
      · have hw := hw.1 hc3
        refine lv_iconst (v := 0) hx hb dX6_hasOperand_25 (by decide) ?_
        exact sy_zret C hr hlocks hP hS rfl hw dX6_hasOperand_26
      · have hw := hw.2 hc3
        refine lv_iload_n hx hb dX6_hasOperand_15 rfl (lv_at hl 0 rfl) ?_
        refine lv_bipush (v := 9) hx hb dX6_hasOperand_16 (by decide) ?_
        refine lv_icmp_gt (tgt := 25) hx hb dX6_hasOperand_18 (by decide) (fun hc4 => ?_) (fun hc4 => ?_)
        · have hw := hw.1 hc4
          refine lv_iconst (v := 0) hx hb dX6_hasOperand_25 (by decide) ?_
          exact sy_zret C hr hlocks hP hS rfl hw dX6_hasOperand_26
        · have hw := hw.2 hc4
          refine lv_iconst (v := 1) hx hb dX6_hasOperand_21 (by decide) ?_
          refine lv_goto (tgt := 26) hx hb dX6_hasOperand_22 (by decide) ?_
          exact sy_zret C hr hlocks hP hS rfl hw dX6_hasOperand_26
theorem mw_X6_lengthOf : MW yX6_lengthOf cX6_lengthOf 1 (some .int) 1 := ⟨w_318, w_1, by decide +kernel⟩
def wp_X6_lengthOf (a1 : Int32) (T : St) (post : Int32 → St → Prop) : Prop :=
  wp_X6_hasOperand a1 T (fun r2 T1 => (r2 = 0 → post 1 T1) ∧ (¬ r2 = 0 → post 2 T1))
set_option maxHeartbeats 4000000 in
set_option maxRecDepth 100000 in
theorem m_X6_lengthOf (l : Launch) (G : Gm) (hi : Inj G) (a1 : Int32)  (T : St) (post : Int32 → St → Prop) (hw : wp_X6_lengthOf a1 T post) : Mi l yX6_lengthOf cX6_lengthOf 1 (some .int) 1 20 G [.int a1] T post := by
  refine sy_head hi (by decide) (Nat.le_of_ble_eq_true rfl) (lv := [(0, .int a1)]) rfl ?_
  intro p e s m below meth c C hr hlocks hP hS ls hl
  have C : Cx p s m _ c cX6_lengthOf 1 RX6 G := C
  obtain ⟨hx, hb, hml, hown, hg, hK, hN, -⟩ := id C
  unfold wp_X6_lengthOf at hw
  refine lv_iload_n hx hb dX6_lengthOf_0 rfl (lv_at hl 0 rfl) ?_
  refine sy_goi (sy_runS C hP (m_X6_hasOperand l G hi _ _ _ hw) mw_X6_hasOperand w_320 w_319 (rest := []) rfl hl.1 rfl (Nat.le_of_ble_eq_true rfl) ⟨Nat.le_of_ble_eq_true rfl, Nat.le_of_ble_eq_true rfl⟩ dX6_lengthOf_1 ⟨Nat.zero_le _, Nat.zero_le _⟩) hS (fun _ h => h) (fun r2 T1 H locs hw hP hS => ?_)
  refine lv_if_eq (tgt := 11) hx hb dX6_lengthOf_4 (by decide) (fun hc3 => ?_) (fun hc3 => ?_)
  · have hw := hw.1 hc3
    refine lv_iconst (v := 1) hx hb dX6_lengthOf_11 (by decide) ?_
    exact sy_iret C hr hlocks hP hS hw dX6_lengthOf_12
  · have hw := hw.2 hc3
    refine lv_iconst (v := 2) hx hb dX6_lengthOf_7 (by decide) ?_
    refine lv_goto (tgt := 12) hx hb dX6_lengthOf_8 (by decide) ?_
    exact sy_iret C hr hlocks hP hS hw dX6_lengthOf_12
theorem mw_X0_leave : MW yX0_leave cX0_leave 1 none 0 := ⟨w_452, w_7, by decide +kernel⟩
def wp_X0_leave (o : Nat) (T : St) (post : St → Prop) : Prop :=
  (1 < T.1 o 4 → vp_in ((sv T o 4 ((T.1 o 4) - 1)).1 o 4) 6 ∧ (∀ T3 : St, T3 = sv (sv T o 4 ((T.1 o 4) - 1)) o 8 ((sv T o 4 ((T.1 o 4) - 1)).1 (wi o + 1) ((sv T o 4 ((T.1 o 4) - 1)).1 o 4).toNatClampNeg) → (post T3))) ∧ (¬ 1 < T.1 o 4 → post (sv T o 15 1))
set_option maxHeartbeats 4000000 in
set_option maxRecDepth 100000 in
theorem m_X0_leave (l : Launch) (G : Gm) (hi : Inj G) (o : Nat) (ho : ko o = 0) (T : St) (post : St → Prop) (hw : wp_X0_leave o T post) : Mv l yX0_leave cX0_leave 1 none 0 0 G [.ref (G.2.2 o)] T post := by
  refine sy_head hi (by decide) (Nat.le_of_ble_eq_true rfl) (lv := [(0, .ref (G.2.2 o))]) rfl ?_
  intro p e s m below meth c C hr hlocks hP hS ls hl
  have C : Cx p s m _ c cX0_leave 1 RX0 G := C
  obtain ⟨hx, hb, hml, hown, hg, hK, hN, -⟩ := id C
  unfold wp_X0_leave at hw
  refine lv_aload_n hx hb dX0_leave_0 rfl (lv_at hl 0 rfl) ?_
  refine gf_X0_26 C hP (o := o) ho dX0_leave_1 ?_
  refine lv_iconst (v := 1) hx hb dX0_leave_4 (by decide) ?_
  refine lv_icmp_gt (tgt := 14) hx hb dX0_leave_5 (by decide) (fun hc1 => ?_) (fun hc1 => ?_)
  · have hw := hw.1 hc1
    refine lv_aload_n hx hb dX0_leave_14 rfl (lv_at hl 0 rfl) ?_
    refine lv_dup hx hb dX0_leave_15 rfl ?_
    refine gf_X0_26 C hP (o := o) ho dX0_leave_16 ?_
    refine lv_iconst (v := 1) hx hb dX0_leave_19 (by decide) ?_
    refine lv_isub hx hb dX0_leave_20 ?_
    refine pf_X0_26 C hP hS (fun _ h => h) (o := o) ho dX0_leave_21 (fun H locs hP hS => ?_)
    refine lv_aload_n hx hb dX0_leave_24 rfl (lv_at hl 0 rfl) ?_
    refine lv_aload_n hx hb dX0_leave_25 rfl (lv_at hl 0 rfl) ?_
    refine gf_X0_15 C hP (o := o) ho dX0_leave_26 ?_
    refine lv_aload_n hx hb dX0_leave_29 rfl (lv_at hl 0 rfl) ?_
    refine gf_X0_26 C hP (o := o) ho dX0_leave_30 ?_
    obtain ⟨hn2, hw⟩ := hw
    refine sy_iald C hP (o := (wi o + 1)) (ko_co ho).2.2.1 (ko_co ho).2.2.2 hn2 dX0_leave_33 ?_
    refine pf_X0_39 C hP hS (fun _ h => h) (o := o) ho dX0_leave_34 (fun H locs hP hS => ?_)
    obtain ⟨T3, eT3, hP⟩ := nameT (P := fun T => va_P G.1 sc_cl (wd G T) H) hP
    have hw := hw T3 eT3
    exact sy_vret C hr hlocks hP hS hw dX0_leave_37
  · have hw := hw.2 hc1
    refine lv_aload_n hx hb dX0_leave_8 rfl (lv_at hl 0 rfl) ?_
    refine lv_iconst (v := 1) hx hb dX0_leave_9 (by decide) ?_
    refine pf_X0_54 C hP hS (fun _ h => h) (o := o) ho dX0_leave_10 (fun H locs hP hS => ?_)
    exact sy_vret C hr hlocks hP hS hw dX0_leave_13
theorem mw_X0_enterCalled : MW yX0_enterCalled cX0_enterCalled 3 none 2 := ⟨w_456, w_7, by decide +kernel⟩
def wp_X0_enterCalled (o : Nat) (a1 : Int32) (a2 : Int32) (T : St) (post : St → Prop) : Prop :=
  (T.1 o 4 < 6 → (T.1 o 10 < a2 → wp_X0_enter o (T.1 o 10) a1 T (fun T3 => post T3)) ∧ (¬ T.1 o 10 < a2 → post (sv T o 15 (-2)))) ∧ (¬ T.1 o 4 < 6 → post (sv T o 15 (-3)))
set_option maxHeartbeats 4000000 in
set_option maxRecDepth 100000 in
theorem m_X0_enterCalled (l : Launch) (G : Gm) (hi : Inj G) (o : Nat) (a1 : Int32) (a2 : Int32) (ho : ko o = 0) (T : St) (post : St → Prop) (hw : wp_X0_enterCalled o a1 a2 T post) : Mv l yX0_enterCalled cX0_enterCalled 3 none 2 62 G [.ref (G.2.2 o), .int a1, .int a2] T post := by
  refine sy_head hi (by decide) (Nat.le_of_ble_eq_true rfl) (lv := [(0, .ref (G.2.2 o)), (1, .int a1), (2, .int a2)]) rfl ?_
  intro p e s m below meth c C hr hlocks hP hS ls hl
  have C : Cx p s m _ c cX0_enterCalled 3 RX0 G := C
  obtain ⟨hx, hb, hml, hown, hg, hK, hN, -⟩ := id C
  unfold wp_X0_enterCalled at hw
  refine lv_aload_n hx hb dX0_enterCalled_0 rfl (lv_at hl 0 rfl) ?_
  refine gf_X0_26 C hP (o := o) ho dX0_enterCalled_1 ?_
  refine lv_bipush (v := 6) hx hb dX0_enterCalled_4 (by decide) ?_
  refine lv_icmp_lt (tgt := 18) hx hb dX0_enterCalled_6 (by decide) (fun hc1 => ?_) (fun hc1 => ?_)
  · have hw := hw.1 hc1
    refine lv_aload_n hx hb dX0_enterCalled_18 rfl (lv_at hl 0 rfl) ?_
    refine gf_X0_110 C hP (o := o) ho dX0_enterCalled_19 ?_
    refine lv_iload_n hx hb dX0_enterCalled_22 rfl (lv_at hl 2 rfl) ?_
    refine lv_icmp_lt (tgt := 35) hx hb dX0_enterCalled_23 (by decide) (fun hc2 => ?_) (fun hc2 => ?_)
    · have hw := hw.1 hc2
      refine lv_aload_n hx hb dX0_enterCalled_35 rfl (lv_at hl 0 rfl) ?_
      refine lv_aload_n hx hb dX0_enterCalled_36 rfl (lv_at hl 0 rfl) ?_
      refine gf_X0_110 C hP (o := o) ho dX0_enterCalled_37 ?_
      refine lv_iload_n hx hb dX0_enterCalled_40 rfl (lv_at hl 1 rfl) ?_
      refine sy_gov (sy_runV C hP ho rfl (m_X0_enter l G hi _ _ _ ho _ _ hw) mw_X0_enter w_428 ws_12 w_426 (rest := []) rfl hl.1 rfl (Nat.le_of_ble_eq_true rfl) ⟨Nat.le_of_ble_eq_true rfl, Nat.le_of_ble_eq_true rfl⟩ dX0_enterCalled_41 ⟨Nat.zero_le _, Nat.zero_le _⟩) hS (fun _ h => h) (fun T3 H locs hw hP hS => ?_)
      exact sy_vret C hr hlocks hP hS hw dX0_enterCalled_44
    · have hw := hw.2 hc2
      refine lv_aload_n hx hb dX0_enterCalled_26 rfl (lv_at hl 0 rfl) ?_
      refine lv_bipush (v := (-2)) hx hb dX0_enterCalled_27 (by decide) ?_
      refine pf_X0_54 C hP hS (fun _ h => h) (o := o) ho dX0_enterCalled_29 (fun H locs hP hS => ?_)
      refine lv_goto (tgt := 44) hx hb dX0_enterCalled_32 (by decide) ?_
      exact sy_vret C hr hlocks hP hS hw dX0_enterCalled_44
  · have hw := hw.2 hc1
    refine lv_aload_n hx hb dX0_enterCalled_9 rfl (lv_at hl 0 rfl) ?_
    refine lv_bipush (v := (-3)) hx hb dX0_enterCalled_10 (by decide) ?_
    refine pf_X0_54 C hP hS (fun _ h => h) (o := o) ho dX0_enterCalled_12 (fun H locs hP hS => ?_)
    refine lv_goto (tgt := 44) hx hb dX0_enterCalled_15 (by decide) ?_
    exact sy_vret C hr hlocks hP hS hw dX0_enterCalled_44
theorem mw_X6_canGoElsewhere : MW yX6_canGoElsewhere cX6_canGoElsewhere 1 (some .boolean) 1 := ⟨w_376, w_1, by decide +kernel⟩
def wp_X6_canGoElsewhere (a1 : Int32) (T : St) (post : Int32 → St → Prop) : Prop :=
  (a1 = 6 → post 1 T) ∧ (¬ a1 = 6 → (a1 = 7 → post 1 T) ∧ (¬ a1 = 7 → (¬ a1 = 8 → post 0 T) ∧ (a1 = 8 → post 1 T)))
set_option maxHeartbeats 4000000 in
set_option maxRecDepth 100000 in
theorem m_X6_canGoElsewhere (l : Launch) (G : Gm) (hi : Inj G) (a1 : Int32)  (T : St) (post : Int32 → St → Prop) (hw : wp_X6_canGoElsewhere a1 T post) : Mi l yX6_canGoElsewhere cX6_canGoElsewhere 1 (some .boolean) 0 0 G [.int a1] T post := by
  refine sy_head hi (by decide) (Nat.le_of_ble_eq_true rfl) (lv := [(0, .int a1)]) rfl ?_
  intro p e s m below meth c C hr hlocks hP hS ls hl
  have C : Cx p s m _ c cX6_canGoElsewhere 1 RX6 G := C
  obtain ⟨hx, hb, hml, hown, hg, hK, hN, -⟩ := id C
  unfold wp_X6_canGoElsewhere at hw
  refine lv_iload_n hx hb dX6_canGoElsewhere_0 rfl (lv_at hl 0 rfl) ?_
  refine lv_bipush (v := 6) hx hb dX6_canGoElsewhere_1 (by decide) ?_
  refine lv_icmp_eq (tgt := 18) hx hb dX6_canGoElsewhere_3 (by decide) (fun hc1 => ?_) (fun hc1 => ?_)
  · have hw := hw.1 hc1
    refine lv_iconst (v := 1) hx hb dX6_canGoElsewhere_18 (by decide) ?_
    refine lv_goto (tgt := 23) hx hb dX6_canGoElsewhere_19 (by decide) ?_
    exact sy_zret C hr hlocks hP hS rfl hw dX6_canGoElsewhere_23
  · have hw := hw.2 hc1
    refine lv_iload_n hx hb dX6_canGoElsewhere_6 rfl (lv_at hl 0 rfl) ?_
    refine lv_bipush (v := 7) hx hb dX6_canGoElsewhere_7 (by decide) ?_
    refine lv_icmp_eq (tgt := 18) hx hb dX6_canGoElsewhere_9 (by decide) (fun hc2 => ?_) (fun hc2 => ?_)
    · have hw := hw.1 hc2
      refine lv_iconst (v := 1) hx hb dX6_canGoElsewhere_18 (by decide) ?_
      refine lv_goto (tgt := 23) hx hb dX6_canGoElsewhere_19 (by decide) ?_
      exact sy_zret C hr hlocks hP hS rfl hw dX6_canGoElsewhere_23
    · have hw := hw.2 hc2
      refine lv_iload_n hx hb dX6_canGoElsewhere_12 rfl (lv_at hl 0 rfl) ?_
      refine lv_bipush (v := 8) hx hb dX6_canGoElsewhere_13 (by decide) ?_
      refine lv_icmp_ne (tgt := 22) hx hb dX6_canGoElsewhere_15 (by decide) (fun hc3 => ?_) (fun hc3 => ?_)
      · have hw := hw.1 hc3
        refine lv_iconst (v := 0) hx hb dX6_canGoElsewhere_22 (by decide) ?_
        exact sy_zret C hr hlocks hP hS rfl hw dX6_canGoElsewhere_23
      · have hw := hw.2 hc3
        refine lv_iconst (v := 1) hx hb dX6_canGoElsewhere_18 (by decide) ?_
        refine lv_goto (tgt := 23) hx hb dX6_canGoElsewhere_19 (by decide) ?_
        exact sy_zret C hr hlocks hP hS rfl hw dX6_canGoElsewhere_23
theorem mw_X0_goesElsewhere : MW yX0_goesElsewhere cX0_goesElsewhere 1 (some .boolean) 0 := ⟨w_461, w_7, by decide +kernel⟩
def wp_X0_goesElsewhere (o : Nat) (T : St) (post : Int32 → St → Prop) : Prop :=
  (¬ T.1 o 9 = 7 → (¬ T.1 o 9 = 8 → post 1 T) ∧ (T.1 o 9 = 8 → ((sv T o 7 ((T.1 o 7) - 1)).1 o 7 = 0 → post 0 (sv T o 7 ((T.1 o 7) - 1))) ∧ (¬ (sv T o 7 ((T.1 o 7) - 1)).1 o 7 = 0 → post 1 (sv T o 7 ((T.1 o 7) - 1))))) ∧ (T.1 o 9 = 7 → (¬ T.1 o 6 = 0 → post 0 T) ∧ (T.1 o 6 = 0 → post 1 T))
set_option maxHeartbeats 4000000 in
set_option maxRecDepth 100000 in
theorem m_X0_goesElsewhere (l : Launch) (G : Gm) (hi : Inj G) (o : Nat) (ho : ko o = 0) (T : St) (post : Int32 → St → Prop) (hw : wp_X0_goesElsewhere o T post) : Mi l yX0_goesElsewhere cX0_goesElsewhere 1 (some .boolean) 0 0 G [.ref (G.2.2 o)] T post := by
  refine sy_head hi (by decide) (Nat.le_of_ble_eq_true rfl) (lv := [(0, .ref (G.2.2 o))]) rfl ?_
  intro p e s m below meth c C hr hlocks hP hS ls hl
  have C : Cx p s m _ c cX0_goesElsewhere 1 RX0 G := C
  obtain ⟨hx, hb, hml, hown, hg, hK, hN, -⟩ := id C
  unfold wp_X0_goesElsewhere at hw
  refine lv_aload_n hx hb dX0_goesElsewhere_0 rfl (lv_at hl 0 rfl) ?_
  refine gf_X0_107 C hP (o := o) ho dX0_goesElsewhere_1 ?_
  refine lv_bipush (v := 7) hx hb dX0_goesElsewhere_4 (by decide) ?_
  refine lv_icmp_ne (tgt := 22) hx hb dX0_goesElsewhere_6 (by decide) (fun hc1 => ?_) (fun hc1 => ?_)
  · have hw := hw.1 hc1
    refine lv_aload_n hx hb dX0_goesElsewhere_22 rfl (lv_at hl 0 rfl) ?_
    refine gf_X0_107 C hP (o := o) ho dX0_goesElsewhere_23 ?_
    refine lv_bipush (v := 8) hx hb dX0_goesElsewhere_26 (by decide) ?_
    refine lv_icmp_ne (tgt := 54) hx hb dX0_goesElsewhere_28 (by decide) (fun hc2 => ?_) (fun hc2 => ?_)
    · have hw := hw.1 hc2
      refine lv_iconst (v := 1) hx hb dX0_goesElsewhere_54 (by decide) ?_
      exact sy_zret C hr hlocks hP hS rfl hw dX0_goesElsewhere_55
    · have hw := hw.2 hc2
      refine lv_aload_n hx hb dX0_goesElsewhere_31 rfl (lv_at hl 0 rfl) ?_
      refine lv_dup hx hb dX0_goesElsewhere_32 rfl ?_
      refine gf_X0_36 C hP (o := o) ho dX0_goesElsewhere_33 ?_
      refine lv_iconst (v := 1) hx hb dX0_goesElsewhere_36 (by decide) ?_
      refine lv_isub hx hb dX0_goesElsewhere_37 ?_
      refine pf_X0_36 C hP hS (fun _ h => h) (o := o) ho dX0_goesElsewhere_38 (fun H locs hP hS => ?_)
      refine lv_aload_n hx hb dX0_goesElsewhere_41 rfl (lv_at hl 0 rfl) ?_
      refine gf_X0_36 C hP (o := o) ho dX0_goesElsewhere_42 ?_
      refine lv_if_eq (tgt := 52) hx hb dX0_goesElsewhere_45 (by decide) (fun hc3 => ?_) (fun hc3 => ?_)
      · have hw := hw.1 hc3
        refine lv_iconst (v := 0) hx hb dX0_goesElsewhere_52 (by decide) ?_
        exact sy_zret C hr hlocks hP hS rfl hw dX0_goesElsewhere_53
      · have hw := hw.2 hc3
        refine lv_iconst (v := 1) hx hb dX0_goesElsewhere_48 (by decide) ?_
        refine lv_goto (tgt := 53) hx hb dX0_goesElsewhere_49 (by decide) ?_
        exact sy_zret C hr hlocks hP hS rfl hw dX0_goesElsewhere_53
  · have hw := hw.2 hc1
    refine lv_aload_n hx hb dX0_goesElsewhere_9 rfl (lv_at hl 0 rfl) ?_
    refine gf_X0_33 C hP (o := o) ho dX0_goesElsewhere_10 ?_
    refine lv_if_ne (tgt := 20) hx hb dX0_goesElsewhere_13 (by decide) (fun hc4 => ?_) (fun hc4 => ?_)
    · have hw := hw.1 hc4
      refine lv_iconst (v := 0) hx hb dX0_goesElsewhere_20 (by decide) ?_
      exact sy_zret C hr hlocks hP hS rfl hw dX0_goesElsewhere_21
    · have hw := hw.2 hc4
      refine lv_iconst (v := 1) hx hb dX0_goesElsewhere_16 (by decide) ?_
      refine lv_goto (tgt := 21) hx hb dX0_goesElsewhere_17 (by decide) ?_
      exact sy_zret C hr hlocks hP hS rfl hw dX0_goesElsewhere_21
theorem mw_X0_swap : MW yX0_swap cX0_swap 2 none 0 := ⟨w_469, w_7, by decide +kernel⟩
def wp_X0_swap (o : Nat) (T : St) (post : St → Prop) : Prop :=
  post (sv (sv T o 6 (T.1 o 7)) o 7 (T.1 o 6))
set_option maxHeartbeats 4000000 in
set_option maxRecDepth 100000 in
theorem m_X0_swap (l : Launch) (G : Gm) (hi : Inj G) (o : Nat) (ho : ko o = 0) (T : St) (post : St → Prop) (hw : wp_X0_swap o T post) : Mv l yX0_swap cX0_swap 2 none 0 0 G [.ref (G.2.2 o)] T post := by
  refine sy_head hi (by decide) (Nat.le_of_ble_eq_true rfl) (lv := [(0, .ref (G.2.2 o))]) rfl ?_
  intro p e s m below meth c C hr hlocks hP hS ls hl
  have C : Cx p s m _ c cX0_swap 2 RX0 G := C
  obtain ⟨hx, hb, hml, hown, hg, hK, hN, -⟩ := id C
  unfold wp_X0_swap at hw
  refine lv_aload_n hx hb dX0_swap_0 rfl (lv_at hl 0 rfl) ?_
  refine gf_X0_33 C hP (o := o) ho dX0_swap_1 ?_
  refine lv_istore_n (lv' := [(1, .int (T.1 o 6)), (0, .ref (G.2.2 o))]) hx hb dX0_swap_4 rfl hl (by decide) rfl (fun ls hl => ?_)
  refine lv_aload_n hx hb dX0_swap_5 rfl (lv_at hl 1 rfl) ?_
  refine lv_aload_n hx hb dX0_swap_6 rfl (lv_at hl 1 rfl) ?_
  refine gf_X0_36 C hP (o := o) ho dX0_swap_7 ?_
  refine pf_X0_33 C hP hS (fun _ h => h) (o := o) ho dX0_swap_10 (fun H locs hP hS => ?_)
  refine lv_aload_n hx hb dX0_swap_13 rfl (lv_at hl 1 rfl) ?_
  refine lv_iload_n hx hb dX0_swap_14 rfl (lv_at hl 0 rfl) ?_
  refine pf_X0_36 C hP hS (fun _ h => h) (o := o) ho dX0_swap_15 (fun H locs hP hS => ?_)
  exact sy_vret C hr hlocks hP hS hw dX0_swap_18
theorem mw_X4_become : MW yX4_become cX4_become 4 none 2 := ⟨w_295, w_3, by decide +kernel⟩
def wj_X4_become_46 (o : Nat) (a2 : Int32)  (j3_5 : Int32) (T6 : St) (post : St → Prop) : Prop :=
  vp_in j3_5 256 ∧ (vp_in j3_5 256 ∧ (∀ T9 : St, T9 = sv (sv (sv T6 (o + 1) (j3_5.toNatClampNeg) a2) o 5 (((sv T6 (o + 1) (j3_5.toNatClampNeg) a2).1 o 5) + 1)) o 2 (((sv (sv T6 (o + 1) (j3_5.toNatClampNeg) a2) o 5 (((sv T6 (o + 1) (j3_5.toNatClampNeg) a2).1 o 5) + 1)).1 o 2) &&& (((sv (sv T6 (o + 1) (j3_5.toNatClampNeg) a2) o 5 (((sv T6 (o + 1) (j3_5.toNatClampNeg) a2).1 o 5) + 1)).1 2 j3_5.toNatClampNeg) ^^^ (-1))) → (post T9)))
def wp_X4_become (o : Nat) (a1 : Int32) (a2 : Int32) (T : St) (post : St → Prop) : Prop :=
  vp_in (a1 &&& 255) 256 ∧ ((¬ T.1 (o + 1) (a1 &&& 255).toNatClampNeg = a2 → vp_in ((a1 &&& 255) >>> ((4 : Int32) &&& 31)) 16 ∧ (((T.1 3 ((a1 &&& 255) >>> ((4 : Int32) &&& 31)).toNatClampNeg) &&& (T.1 o 2) = 0 → wj_X4_become_46 o a2 (a1 &&& 255) T post) ∧ (¬ (T.1 3 ((a1 &&& 255) >>> ((4 : Int32) &&& 31)).toNatClampNeg) &&& (T.1 o 2) = 0 → wj_X4_become_46 o a2 (a1 &&& 255) (sv T o 4 ((T.1 o 4) + 1)) post))) ∧ (T.1 (o + 1) (a1 &&& 255).toNatClampNeg = a2 → post T))
set_option maxHeartbeats 4000000 in
set_option maxRecDepth 100000 in
theorem m_X4_become (l : Launch) (G : Gm) (hi : Inj G) (o : Nat) (a1 : Int32) (a2 : Int32) (ho : ko o = 4) (T : St) (post : St → Prop) (hw : wp_X4_become o a1 a2 T post) : Mv l yX4_become cX4_become 4 none 0 0 G [.ref (G.2.2 o), .int a1, .int a2] T post := by
  refine sy_head hi (by decide) (Nat.le_of_ble_eq_true rfl) (lv := [(0, .ref (G.2.2 o)), (1, .int a1), (2, .int a2)]) rfl ?_
  intro p e s m below meth c C hr hlocks hP hS ls hl
  have C : Cx p s m _ c cX4_become 4 RX4 G := C
  obtain ⟨hx, hb, hml, hown, hg, hK, hN, -⟩ := id C
  unfold wp_X4_become at hw
  have J10 : ∀ (j3_5 : Int32) (T6 : St), wj_X4_become_46 o a2  j3_5 T6 post → ∀ (H : Heap) (locs : List Loc), va_P G.1 sc_cl (wd G T6) H → va_S (SA G) s.heap H locs → ∀ ls : Array Slot, lv_has ls 4 [(0, .ref (G.2.2 o)), (2, .int a2), (3, .int j3_5)] → W p l e { frames := 0, cells := 0, slots := 0, locals := 0 } s m ([.ref (G.2.2 o), .int a1, .int a2] : List Value).toArray below meth c H locs 0 0 (MQ below (va_Qv post (Sy G) (SA G)) ([.ref (G.2.2 o), .int a1, .int a2] : List Value).toArray s 0 0 (SA G)) (F0 m 46 ls []) := by
    intro j3_5 T6  hw H locs hP hS ls hl
    unfold wj_X4_become_46 at hw
    refine lv_aload_n hx hb dX4_become_46 rfl (lv_at hl 0 rfl) ?_
    refine gf_X4_9 C hP (o := o) ho dX4_become_47 ?_
    refine lv_iload_n hx hb dX4_become_50 rfl (lv_at hl 2 rfl) ?_
    refine lv_iload_n hx hb dX4_become_51 rfl (lv_at hl 1 rfl) ?_
    obtain ⟨hn7, hw⟩ := hw
    refine sy_iast C hP hS (fun _ h => h) (o := (o + 1)) (ko_by ho).1 (ko_by ho).2 hn7 dX4_become_52 (fun H locs hP hS => ?_)
    refine lv_aload_n hx hb dX4_become_53 rfl (lv_at hl 0 rfl) ?_
    refine lv_dup hx hb dX4_become_54 rfl ?_
    refine gf_X4_19 C hP (o := o) ho dX4_become_55 ?_
    refine lv_iconst (v := 1) hx hb dX4_become_58 (by decide) ?_
    refine lv_iadd hx hb dX4_become_59 ?_
    refine pf_X4_19 C hP hS (fun _ h => h) (o := o) ho dX4_become_60 (fun H locs hP hS => ?_)
    refine lv_aload_n hx hb dX4_become_63 rfl (lv_at hl 0 rfl) ?_
    refine lv_dup hx hb dX4_become_64 rfl ?_
    refine gf_X4_23 C hP (o := o) ho dX4_become_65 ?_
    refine lv_aload_n hx hb dX4_become_68 rfl (lv_at hl 0 rfl) ?_
    refine gf_X4_15 C hP (o := o) ho dX4_become_69 ?_
    refine gf_X4_37 C hP (o := 1) rfl dX4_become_72 ?_
    refine lv_iload_n hx hb dX4_become_75 rfl (lv_at hl 2 rfl) ?_
    obtain ⟨hn8, hw⟩ := hw
    refine sy_iald C hP (o := 2) rfl rfl hn8 dX4_become_76 ?_
    refine lv_iconst (v := (-1)) hx hb dX4_become_77 (by decide) ?_
    refine lv_ixor hx hb dX4_become_78 ?_
    refine lv_iand hx hb dX4_become_79 ?_
    refine pf_X4_23 C hP hS (fun _ h => h) (o := o) ho dX4_become_80 (fun H locs hP hS => ?_)
    obtain ⟨T9, eT9, hP⟩ := nameT (P := fun T => va_P G.1 sc_cl (wd G T) H) hP
    have hw := hw T9 eT9
    exact sy_vret C hr hlocks hP hS hw dX4_become_83
  refine lv_iload_n hx hb dX4_become_0 rfl (lv_at hl 1 rfl) ?_
  refine lv_sipush (v := 255) hx hb dX4_become_1 (by decide) ?_
  refine lv_iand hx hb dX4_become_4 ?_
  refine lv_istore_n (lv' := [(3, .int (a1 &&& 255)), (0, .ref (G.2.2 o)), (1, .int a1), (2, .int a2)]) hx hb dX4_become_5 rfl hl (by decide) rfl (fun ls hl => ?_)
  refine lv_aload_n hx hb dX4_become_6 rfl (lv_at hl 1 rfl) ?_
  refine gf_X4_9 C hP (o := o) ho dX4_become_7 ?_
  refine lv_iload_n hx hb dX4_become_10 rfl (lv_at hl 0 rfl) ?_
  obtain ⟨hn1, hw⟩ := hw
  refine sy_iald C hP (o := (o + 1)) (ko_by ho).1 (ko_by ho).2 hn1 dX4_become_11 ?_
  refine lv_iload_n hx hb dX4_become_12 rfl (lv_at hl 3 rfl) ?_
  refine lv_icmp_ne (tgt := 17) hx hb dX4_become_13 (by decide) (fun hc2 => ?_) (fun hc2 => ?_)
  · have hw := hw.1 hc2
    refine lv_aload_n hx hb dX4_become_17 rfl (lv_at hl 1 rfl) ?_
    refine gf_X4_15 C hP (o := o) ho dX4_become_18 ?_
    refine gf_X4_29 C hP (o := 1) rfl dX4_become_21 ?_
    refine lv_iload_n hx hb dX4_become_24 rfl (lv_at hl 0 rfl) ?_
    refine lv_iconst (v := 4) hx hb dX4_become_25 (by decide) ?_
    refine lv_ishr hx hb dX4_become_26 ?_
    obtain ⟨hn3, hw⟩ := hw
    refine sy_iald C hP (o := 3) rfl rfl hn3 dX4_become_27 ?_
    refine lv_aload_n hx hb dX4_become_28 rfl (lv_at hl 1 rfl) ?_
    refine gf_X4_23 C hP (o := o) ho dX4_become_29 ?_
    refine lv_iand hx hb dX4_become_32 ?_
    refine lv_if_eq (tgt := 46) hx hb dX4_become_33 (by decide) (fun hc4 => ?_) (fun hc4 => ?_)
    · have hw := hw.1 hc4
      exact J10 _ _  hw _ _ hP hS ls (lv_sub hl [1, 3, 0] rfl)
    · have hw := hw.2 hc4
      refine lv_aload_n hx hb dX4_become_36 rfl (lv_at hl 1 rfl) ?_
      refine lv_dup hx hb dX4_become_37 rfl ?_
      refine gf_X4_34 C hP (o := o) ho dX4_become_38 ?_
      refine lv_iconst (v := 1) hx hb dX4_become_41 (by decide) ?_
      refine lv_iadd hx hb dX4_become_42 ?_
      refine pf_X4_34 C hP hS (fun _ h => h) (o := o) ho dX4_become_43 (fun H locs hP hS => ?_)
      exact J10 _ _  hw _ _ hP hS ls (lv_sub hl [1, 3, 0] rfl)
  · have hw := hw.2 hc2
    exact sy_vret C hr hlocks hP hS hw dX4_become_16
theorem mw_X0_doPlainAct : MW yX0_doPlainAct cX0_doPlainAct 1 none 0 := ⟨w_465, w_7, by decide +kernel⟩
def wp_X0_doPlainAct (o : Nat) (T : St) (post : St → Prop) : Prop :=
  (T.1 o 9 = 1 → post (sv T o 6 ((T.1 o 10).toInt8.toInt32))) ∧ (¬ T.1 o 9 = 1 → (T.1 o 9 = 2 → post (sv T o 6 ((T.1 o 6) + ((T.1 o 10).toInt8.toInt32)))) ∧ (¬ T.1 o 9 = 2 → (T.1 o 9 = 3 → wp_X0_swap o T (fun T4 => post T4)) ∧ (¬ T.1 o 9 = 3 → (T.1 o 9 = 4 → vp_in (T.1 o 10) 256 ∧ (post (sv T o 6 (T.1 ((mo o) + 1) (T.1 o 10).toNatClampNeg)))) ∧ (¬ T.1 o 9 = 4 → (T.1 o 9 = 5 → wp_X4_become (mo o) (T.1 o 10) ((T.1 o 6) &&& 255) T (fun T9 => post T9)) ∧ (¬ T.1 o 9 = 5 → (T.1 o 9 = 6 → post T) ∧ (¬ T.1 o 9 = 6 → (T.1 o 9 = 7 → post T) ∧ (¬ T.1 o 9 = 7 → (T.1 o 9 = 8 → post T) ∧ (¬ T.1 o 9 = 8 → (T.1 o 9 = 9 → post T) ∧ (¬ T.1 o 9 = 9 → (T.1 o 9 = 10 → vp_in ((T.1 o 7) &&& 255) 256 ∧ (post (sv T o 6 (T.1 ((mo o) + 1) ((T.1 o 7) &&& 255).toNatClampNeg)))) ∧ (¬ T.1 o 9 = 10 → (T.1 o 9 = 11 → wp_X4_become (mo o) (T.1 o 7) ((T.1 o 6) &&& 255) T (fun T18 => post T18)) ∧ (¬ T.1 o 9 = 11 → (T.1 o 9 = 12 → post (sv T o 6 ((T.1 o 6) * (T.1 o 7)))) ∧ (¬ T.1 o 9 = 12 → post T))))))))))))
set_option maxHeartbeats 4000000 in
set_option maxRecDepth 100000 in
theorem m_X0_doPlainAct (l : Launch) (G : Gm) (hi : Inj G) (o : Nat) (ho : ko o = 0) (T : St) (post : St → Prop) (hw : wp_X0_doPlainAct o T post) : Mv l yX0_doPlainAct cX0_doPlainAct 1 none 1 23 G [.ref (G.2.2 o)] T post := by
  refine sy_head hi (by decide) (Nat.le_of_ble_eq_true rfl) (lv := [(0, .ref (G.2.2 o))]) rfl ?_
  intro p e s m below meth c C hr hlocks hP hS ls hl
  have C : Cx p s m _ c cX0_doPlainAct 1 RX0 G := C
  obtain ⟨hx, hb, hml, hown, hg, hK, hN, -⟩ := id C
  unfold wp_X0_doPlainAct at hw
  refine lv_aload_n hx hb dX0_doPlainAct_0 rfl (lv_at hl 0 rfl) ?_
  refine gf_X0_107 C hP (o := o) ho dX0_doPlainAct_1 ?_
  by_cases hs1 : T.1 o 9 = 1
  · have hw := hw.1 hs1
    refine lv_tableIn (off := 64) (tgt := 68) hx hb dX0_doPlainAct_4 (by rw [hs1]; decide) (by rw [hs1]; decide) (by rw [hs1]; rfl) (by decide) ?_
    refine lv_aload_n hx hb dX0_doPlainAct_68 rfl (lv_at hl 0 rfl) ?_
    refine lv_aload_n hx hb dX0_doPlainAct_69 rfl (lv_at hl 0 rfl) ?_
    refine gf_X0_110 C hP (o := o) ho dX0_doPlainAct_70 ?_
    refine lv_i2b hx hb dX0_doPlainAct_73 rfl ?_
    refine pf_X0_33 C hP hS (fun _ h => h) (o := o) ho dX0_doPlainAct_74 (fun H locs hP hS => ?_)
    refine lv_goto (tgt := 206) hx hb dX0_doPlainAct_77 (by decide) ?_
    exact sy_vret C hr hlocks hP hS hw dX0_doPlainAct_206
  · have hw := hw.2 hs1
    by_cases hs2 : T.1 o 9 = 2
    · have hw := hw.1 hs2
      refine lv_tableIn (off := 76) (tgt := 80) hx hb dX0_doPlainAct_4 (by rw [hs2]; decide) (by rw [hs2]; decide) (by rw [hs2]; rfl) (by decide) ?_
      refine lv_aload_n hx hb dX0_doPlainAct_80 rfl (lv_at hl 0 rfl) ?_
      refine lv_dup hx hb dX0_doPlainAct_81 rfl ?_
      refine gf_X0_33 C hP (o := o) ho dX0_doPlainAct_82 ?_
      refine lv_aload_n hx hb dX0_doPlainAct_85 rfl (lv_at hl 0 rfl) ?_
      refine gf_X0_110 C hP (o := o) ho dX0_doPlainAct_86 ?_
      refine lv_i2b hx hb dX0_doPlainAct_89 rfl ?_
      refine lv_iadd hx hb dX0_doPlainAct_90 ?_
      refine pf_X0_33 C hP hS (fun _ h => h) (o := o) ho dX0_doPlainAct_91 (fun H locs hP hS => ?_)
      refine lv_goto (tgt := 206) hx hb dX0_doPlainAct_94 (by decide) ?_
      exact sy_vret C hr hlocks hP hS hw dX0_doPlainAct_206
    · have hw := hw.2 hs2
      by_cases hs3 : T.1 o 9 = 3
      · have hw := hw.1 hs3
        refine lv_tableIn (off := 93) (tgt := 97) hx hb dX0_doPlainAct_4 (by rw [hs3]; decide) (by rw [hs3]; decide) (by rw [hs3]; rfl) (by decide) ?_
        refine lv_aload_n hx hb dX0_doPlainAct_97 rfl (lv_at hl 0 rfl) ?_
        refine sy_gov (sy_runV C hP ho rfl (m_X0_swap l G hi _ ho _ _ hw) mw_X0_swap w_468 ws_19 w_466 (rest := []) rfl hl.1 rfl (Nat.le_of_ble_eq_true rfl) ⟨Nat.le_of_ble_eq_true rfl, Nat.le_of_ble_eq_true rfl⟩ dX0_doPlainAct_98 ⟨Nat.zero_le _, Nat.zero_le _⟩) hS (fun _ h => h) (fun T4 H locs hw hP hS => ?_)
        refine lv_goto (tgt := 206) hx hb dX0_doPlainAct_101 (by decide) ?_
        exact sy_vret C hr hlocks hP hS hw dX0_doPlainAct_206
      · have hw := hw.2 hs3
        by_cases hs6 : T.1 o 9 = 4
        · have hw := hw.1 hs6
          refine lv_tableIn (off := 100) (tgt := 104) hx hb dX0_doPlainAct_4 (by rw [hs6]; decide) (by rw [hs6]; decide) (by rw [hs6]; rfl) (by decide) ?_
          refine lv_aload_n hx hb dX0_doPlainAct_104 rfl (lv_at hl 0 rfl) ?_
          refine lv_aload_n hx hb dX0_doPlainAct_105 rfl (lv_at hl 0 rfl) ?_
          refine gf_X0_18 C hP (o := o) ho dX0_doPlainAct_106 ?_
          refine gf_X0_104 C hP (o := (mo o)) (ko_co ho).1 dX0_doPlainAct_109 ?_
          refine lv_aload_n hx hb dX0_doPlainAct_112 rfl (lv_at hl 0 rfl) ?_
          refine gf_X0_110 C hP (o := o) ho dX0_doPlainAct_113 ?_
          obtain ⟨hn7, hw⟩ := hw
          refine sy_iald C hP (o := ((mo o) + 1)) (ko_by (ko_co ho).1).1 (ko_by (ko_co ho).1).2 hn7 dX0_doPlainAct_116 ?_
          refine pf_X0_33 C hP hS (fun _ h => h) (o := o) ho dX0_doPlainAct_117 (fun H locs hP hS => ?_)
          refine lv_goto (tgt := 206) hx hb dX0_doPlainAct_120 (by decide) ?_
          exact sy_vret C hr hlocks hP hS hw dX0_doPlainAct_206
        · have hw := hw.2 hs6
          by_cases hs8 : T.1 o 9 = 5
          · have hw := hw.1 hs8
            refine lv_tableIn (off := 119) (tgt := 123) hx hb dX0_doPlainAct_4 (by rw [hs8]; decide) (by rw [hs8]; decide) (by rw [hs8]; rfl) (by decide) ?_
            refine lv_aload_n hx hb dX0_doPlainAct_123 rfl (lv_at hl 0 rfl) ?_
            refine gf_X0_18 C hP (o := o) ho dX0_doPlainAct_124 ?_
            refine lv_aload_n hx hb dX0_doPlainAct_127 rfl (lv_at hl 0 rfl) ?_
            refine gf_X0_110 C hP (o := o) ho dX0_doPlainAct_128 ?_
            refine lv_aload_n hx hb dX0_doPlainAct_131 rfl (lv_at hl 0 rfl) ?_
            refine gf_X0_33 C hP (o := o) ho dX0_doPlainAct_132 ?_
            refine lv_sipush (v := 255) hx hb dX0_doPlainAct_135 (by decide) ?_
            refine lv_iand hx hb dX0_doPlainAct_138 ?_
            refine sy_gov (sy_runV C hP (ko_co ho).1 rfl (m_X4_become l G hi _ _ _ (ko_co ho).1 _ _ hw) mw_X4_become w_293 w_294 w_470 (rest := []) rfl hl.1 rfl (Nat.le_of_ble_eq_true rfl) ⟨Nat.le_of_ble_eq_true rfl, Nat.le_of_ble_eq_true rfl⟩ dX0_doPlainAct_139 ⟨Nat.zero_le _, Nat.zero_le _⟩) hS (fun _ h => h) (fun T9 H locs hw hP hS => ?_)
            refine lv_goto (tgt := 206) hx hb dX0_doPlainAct_142 (by decide) ?_
            exact sy_vret C hr hlocks hP hS hw dX0_doPlainAct_206
          · have hw := hw.2 hs8
            by_cases hs11 : T.1 o 9 = 6
            · have hw := hw.1 hs11
              refine lv_tableIn (off := 202) (tgt := 206) hx hb dX0_doPlainAct_4 (by rw [hs11]; decide) (by rw [hs11]; decide) (by rw [hs11]; rfl) (by decide) ?_
              exact sy_vret C hr hlocks hP hS hw dX0_doPlainAct_206
            · have hw := hw.2 hs11
              by_cases hs12 : T.1 o 9 = 7
              · have hw := hw.1 hs12
                refine lv_tableIn (off := 202) (tgt := 206) hx hb dX0_doPlainAct_4 (by rw [hs12]; decide) (by rw [hs12]; decide) (by rw [hs12]; rfl) (by decide) ?_
                exact sy_vret C hr hlocks hP hS hw dX0_doPlainAct_206
              · have hw := hw.2 hs12
                by_cases hs13 : T.1 o 9 = 8
                · have hw := hw.1 hs13
                  refine lv_tableIn (off := 202) (tgt := 206) hx hb dX0_doPlainAct_4 (by rw [hs13]; decide) (by rw [hs13]; decide) (by rw [hs13]; rfl) (by decide) ?_
                  exact sy_vret C hr hlocks hP hS hw dX0_doPlainAct_206
                · have hw := hw.2 hs13
                  by_cases hs14 : T.1 o 9 = 9
                  · have hw := hw.1 hs14
                    refine lv_tableIn (off := 202) (tgt := 206) hx hb dX0_doPlainAct_4 (by rw [hs14]; decide) (by rw [hs14]; decide) (by rw [hs14]; rfl) (by decide) ?_
                    exact sy_vret C hr hlocks hP hS hw dX0_doPlainAct_206
                  · have hw := hw.2 hs14
                    by_cases hs15 : T.1 o 9 = 10
                    · have hw := hw.1 hs15
                      refine lv_tableIn (off := 141) (tgt := 145) hx hb dX0_doPlainAct_4 (by rw [hs15]; decide) (by rw [hs15]; decide) (by rw [hs15]; rfl) (by decide) ?_
                      refine lv_aload_n hx hb dX0_doPlainAct_145 rfl (lv_at hl 0 rfl) ?_
                      refine lv_aload_n hx hb dX0_doPlainAct_146 rfl (lv_at hl 0 rfl) ?_
                      refine gf_X0_18 C hP (o := o) ho dX0_doPlainAct_147 ?_
                      refine gf_X0_104 C hP (o := (mo o)) (ko_co ho).1 dX0_doPlainAct_150 ?_
                      refine lv_aload_n hx hb dX0_doPlainAct_153 rfl (lv_at hl 0 rfl) ?_
                      refine gf_X0_36 C hP (o := o) ho dX0_doPlainAct_154 ?_
                      refine lv_sipush (v := 255) hx hb dX0_doPlainAct_157 (by decide) ?_
                      refine lv_iand hx hb dX0_doPlainAct_160 ?_
                      obtain ⟨hn16, hw⟩ := hw
                      refine sy_iald C hP (o := ((mo o) + 1)) (ko_by (ko_co ho).1).1 (ko_by (ko_co ho).1).2 hn16 dX0_doPlainAct_161 ?_
                      refine pf_X0_33 C hP hS (fun _ h => h) (o := o) ho dX0_doPlainAct_162 (fun H locs hP hS => ?_)
                      refine lv_goto (tgt := 206) hx hb dX0_doPlainAct_165 (by decide) ?_
                      exact sy_vret C hr hlocks hP hS hw dX0_doPlainAct_206
                    · have hw := hw.2 hs15
                      by_cases hs17 : T.1 o 9 = 11
                      · have hw := hw.1 hs17
                        refine lv_tableIn (off := 164) (tgt := 168) hx hb dX0_doPlainAct_4 (by rw [hs17]; decide) (by rw [hs17]; decide) (by rw [hs17]; rfl) (by decide) ?_
                        refine lv_aload_n hx hb dX0_doPlainAct_168 rfl (lv_at hl 0 rfl) ?_
                        refine gf_X0_18 C hP (o := o) ho dX0_doPlainAct_169 ?_
                        refine lv_aload_n hx hb dX0_doPlainAct_172 rfl (lv_at hl 0 rfl) ?_
                        refine gf_X0_36 C hP (o := o) ho dX0_doPlainAct_173 ?_
                        refine lv_aload_n hx hb dX0_doPlainAct_176 rfl (lv_at hl 0 rfl) ?_
                        refine gf_X0_33 C hP (o := o) ho dX0_doPlainAct_177 ?_
                        refine lv_sipush (v := 255) hx hb dX0_doPlainAct_180 (by decide) ?_
                        refine lv_iand hx hb dX0_doPlainAct_183 ?_
                        refine sy_gov (sy_runV C hP (ko_co ho).1 rfl (m_X4_become l G hi _ _ _ (ko_co ho).1 _ _ hw) mw_X4_become w_293 w_294 w_470 (rest := []) rfl hl.1 rfl (Nat.le_of_ble_eq_true rfl) ⟨Nat.le_of_ble_eq_true rfl, Nat.le_of_ble_eq_true rfl⟩ dX0_doPlainAct_184 ⟨Nat.zero_le _, Nat.zero_le _⟩) hS (fun _ h => h) (fun T18 H locs hw hP hS => ?_)
                        refine lv_goto (tgt := 206) hx hb dX0_doPlainAct_187 (by decide) ?_
                        exact sy_vret C hr hlocks hP hS hw dX0_doPlainAct_206
                      · have hw := hw.2 hs17
                        by_cases hs20 : T.1 o 9 = 12
                        · have hw := hw.1 hs20
                          refine lv_tableIn (off := 186) (tgt := 190) hx hb dX0_doPlainAct_4 (by rw [hs20]; decide) (by rw [hs20]; decide) (by rw [hs20]; rfl) (by decide) ?_
                          refine lv_aload_n hx hb dX0_doPlainAct_190 rfl (lv_at hl 0 rfl) ?_
                          refine lv_dup hx hb dX0_doPlainAct_191 rfl ?_
                          refine gf_X0_33 C hP (o := o) ho dX0_doPlainAct_192 ?_
                          refine lv_aload_n hx hb dX0_doPlainAct_195 rfl (lv_at hl 0 rfl) ?_
                          refine gf_X0_36 C hP (o := o) ho dX0_doPlainAct_196 ?_
                          refine lv_imul hx hb dX0_doPlainAct_199 ?_
                          refine pf_X0_33 C hP hS (fun _ h => h) (o := o) ho dX0_doPlainAct_200 (fun H locs hP hS => ?_)
                          refine lv_goto (tgt := 206) hx hb dX0_doPlainAct_203 (by decide) ?_
                          exact sy_vret C hr hlocks hP hS hw dX0_doPlainAct_206
                        · have hw := hw.2 hs20
                          have ahs1 : (T.1 o 9).toInt ≠ 1 := ne_toI hs1
                          have ahs2 : (T.1 o 9).toInt ≠ 2 := ne_toI hs2
                          have ahs3 : (T.1 o 9).toInt ≠ 3 := ne_toI hs3
                          have ahs6 : (T.1 o 9).toInt ≠ 4 := ne_toI hs6
                          have ahs8 : (T.1 o 9).toInt ≠ 5 := ne_toI hs8
                          have ahs11 : (T.1 o 9).toInt ≠ 6 := ne_toI hs11
                          have ahs12 : (T.1 o 9).toInt ≠ 7 := ne_toI hs12
                          have ahs13 : (T.1 o 9).toInt ≠ 8 := ne_toI hs13
                          have ahs14 : (T.1 o 9).toInt ≠ 9 := ne_toI hs14
                          have ahs15 : (T.1 o 9).toInt ≠ 10 := ne_toI hs15
                          have ahs17 : (T.1 o 9).toInt ≠ 11 := ne_toI hs17
                          have ahs20 : (T.1 o 9).toInt ≠ 12 := ne_toI hs20
                          refine lv_tableOut (tgt := 206) hx hb dX0_doPlainAct_4 (by omega) (by decide) ?_
                          exact sy_vret C hr hlocks hP hS hw dX0_doPlainAct_206
theorem mw_X0_step : MW yX0_step cX0_step 4 none 1 := ⟨w_440, w_7, by decide +kernel⟩
def wj_X0_step_90 (o : Nat) (a1 : Int32)   (T10 : St) (post : St → Prop) : Prop :=
  wp_X6_lengthOf (T10.1 o 9) T10 (fun r12 T11 => (¬ T11.1 o 9 = 0 → (¬ T11.1 o 9 = 9 → wp_X6_canGoElsewhere (T11.1 o 9) T11 (fun r16 T15 => (r16 = 0 → wp_X0_doPlainAct o T15 (fun T18 => post (sv T18 o 8 (((T10.1 o 8) + r12) &&& 255)))) ∧ (¬ r16 = 0 → wp_X0_goesElsewhere o T15 (fun r21 T20 => (r21 = 0 → post (sv T20 o 8 (((T10.1 o 8) + r12) &&& 255))) ∧ (¬ r21 = 0 → post (sv T20 o 8 (((((T10.1 o 8) + r12) &&& 255) + ((T20.1 o 10).toInt8.toInt32)) &&& 255))))))) ∧ (T11.1 o 9 = 9 → wp_X0_enterCalled o (((T10.1 o 8) + r12) &&& 255) a1 T11 (fun T23 => post T23))) ∧ (T11.1 o 9 = 0 → wp_X0_leave o T11 (fun T25 => post T25)))
def wj_X0_step_47 (o : Nat) (a1 : Int32)  (j2_4 : Int32) (T5 : St) (post : St → Prop) : Prop :=
  wp_X6_isKind (T5.1 o 9) T5 (fun r7 T6 => (¬ r7 = 0 → (j2_4 = 0 → wj_X0_step_90 o a1 (sv T6 o 12 ((T6.1 o 12) + 1)) post) ∧ (¬ j2_4 = 0 → wj_X0_step_90 o a1 (sv T6 o 11 ((T6.1 o 11) + 1)) post)) ∧ (r7 = 0 → post (sv T6 o 15 (-1))))
def wp_X0_step (o : Nat) (a1 : Int32) (T : St) (post : St → Prop) : Prop :=
  wp_X0_fetchFromMember o T (fun r2 T1 => (¬ r2 = 0 → wj_X0_step_47 o a1 r2 T1 post) ∧ (r2 = 0 → vp_in (T1.1 o 8) 256 ∧ (vp_in ((((sv T1 o 9 (T1.1 ((mo o) + 1) (T1.1 o 8).toNatClampNeg)).1 o 8) + 1) &&& 255) 256 ∧ (∀ T31 : St, T31 = sv (sv T1 o 9 (T1.1 ((mo o) + 1) (T1.1 o 8).toNatClampNeg)) o 10 ((sv T1 o 9 (T1.1 ((mo o) + 1) (T1.1 o 8).toNatClampNeg)).1 ((mo o) + 1) ((((sv T1 o 9 (T1.1 ((mo o) + 1) (T1.1 o 8).toNatClampNeg)).1 o 8) + 1) &&& 255).toNatClampNeg) → (wj_X0_step_47 o a1 r2 T31 post)))))
set_option maxHeartbeats 4000000 in
set_option maxRecDepth 100000 in
theorem m_X0_step (l : Launch) (G : Gm) (hi : Inj G) (o : Nat) (a1 : Int32) (ho : ko o = 0) (T : St) (post : St → Prop) (hw : wp_X0_step o a1 T post) : Mv l yX0_step cX0_step 4 none 3 84 G [.ref (G.2.2 o), .int a1] T post := by
  refine sy_head hi (by decide) (Nat.le_of_ble_eq_true rfl) (lv := [(0, .ref (G.2.2 o)), (1, .int a1)]) rfl ?_
  intro p e s m below meth c C hr hlocks hP hS ls hl
  have C : Cx p s m _ c cX0_step 4 RX0 G := C
  obtain ⟨hx, hb, hml, hown, hg, hK, hN, -⟩ := id C
  unfold wp_X0_step at hw
  have J27 : ∀  (T10 : St), wj_X0_step_90 o a1   T10 post → ∀ (H : Heap) (locs : List Loc), va_P G.1 sc_cl (wd G T10) H → va_S (SA G) s.heap H locs → ∀ ls : Array Slot, lv_has ls 4 [(0, .ref (G.2.2 o)), (1, .int a1)] → W p l e { frames := 3, cells := 0, slots := 0, locals := 84 } s m ([.ref (G.2.2 o), .int a1] : List Value).toArray below meth c H locs 0 0 (MQ below (va_Qv post (Sy G) (SA G)) ([.ref (G.2.2 o), .int a1] : List Value).toArray s 0 0 (SA G)) (F0 m 90 ls []) := by
    intro  T10  hw H locs hP hS ls hl
    unfold wj_X0_step_90 at hw
    refine lv_aload_n hx hb dX0_step_90 rfl (lv_at hl 0 rfl) ?_
    refine gf_X0_39 C hP (o := o) ho dX0_step_91 ?_
    refine lv_aload_n hx hb dX0_step_94 rfl (lv_at hl 0 rfl) ?_
    refine gf_X0_107 C hP (o := o) ho dX0_step_95 ?_
    refine sy_goi (sy_runSN C hP (m_X6_lengthOf l G hi _ _ _ hw) mw_X6_lengthOf w_317 (List.mem_of_getElem? (i := 6) rfl) (rest := [.int (T10.1 o 8)]) rfl hl.1 rfl (Nat.le_of_ble_eq_true rfl) ⟨Nat.le_of_ble_eq_true rfl, Nat.le_of_ble_eq_true rfl⟩ dX0_step_98 ⟨Nat.zero_le _, Nat.zero_le _⟩) hS (fun _ h => h) (fun r12 T11 H locs hw hP hS => ?_)
    refine lv_iadd hx hb dX0_step_101 ?_
    refine lv_sipush (v := 255) hx hb dX0_step_102 (by decide) ?_
    refine lv_iand hx hb dX0_step_105 ?_
    refine lv_istore_n (lv' := [(3, .int (((T10.1 o 8) + r12) &&& 255)), (0, .ref (G.2.2 o)), (1, .int a1)]) hx hb dX0_step_106 rfl hl (by decide) rfl (fun ls hl => ?_)
    refine lv_aload_n hx hb dX0_step_107 rfl (lv_at hl 1 rfl) ?_
    refine gf_X0_107 C hP (o := o) ho dX0_step_108 ?_
    refine lv_if_ne (tgt := 121) hx hb dX0_step_111 (by decide) (fun hc13 => ?_) (fun hc13 => ?_)
    · have hw := hw.1 hc13
      refine lv_aload_n hx hb dX0_step_121 rfl (lv_at hl 1 rfl) ?_
      refine gf_X0_107 C hP (o := o) ho dX0_step_122 ?_
      refine lv_bipush (v := 9) hx hb dX0_step_125 (by decide) ?_
      refine lv_icmp_ne (tgt := 139) hx hb dX0_step_127 (by decide) (fun hc14 => ?_) (fun hc14 => ?_)
      · have hw := hw.1 hc14
        refine lv_aload_n hx hb dX0_step_139 rfl (lv_at hl 1 rfl) ?_
        refine gf_X0_107 C hP (o := o) ho dX0_step_140 ?_
        refine sy_goi (sy_runSN C hP (m_X6_canGoElsewhere l G hi _ _ _ hw) mw_X6_canGoElsewhere w_375 (List.mem_of_getElem? (i := 7) rfl) (rest := []) rfl hl.1 rfl (Nat.le_of_ble_eq_true rfl) ⟨Nat.le_of_ble_eq_true rfl, Nat.le_of_ble_eq_true rfl⟩ dX0_step_143 ⟨Nat.zero_le _, Nat.zero_le _⟩) hS (fun _ h => h) (fun r16 T15 H locs hw hP hS => ?_)
        refine lv_if_eq (tgt := 178) hx hb dX0_step_146 (by decide) (fun hc17 => ?_) (fun hc17 => ?_)
        · have hw := hw.1 hc17
          refine lv_aload_n hx hb dX0_step_178 rfl (lv_at hl 1 rfl) ?_
          refine sy_gov (sy_runV C hP ho rfl (m_X0_doPlainAct l G hi _ ho _ _ hw) mw_X0_doPlainAct w_464 ws_18 w_462 (rest := []) rfl hl.1 rfl (Nat.le_of_ble_eq_true rfl) ⟨Nat.le_of_ble_eq_true rfl, Nat.le_of_ble_eq_true rfl⟩ dX0_step_179 ⟨Nat.zero_le _, Nat.zero_le _⟩) hS (fun _ h => h) (fun T18 H locs hw hP hS => ?_)
          refine lv_aload_n hx hb dX0_step_182 rfl (lv_at hl 1 rfl) ?_
          refine lv_iload_n hx hb dX0_step_183 rfl (lv_at hl 0 rfl) ?_
          refine pf_X0_39 C hP hS (fun _ h => h) (o := o) ho dX0_step_184 (fun H locs hP hS => ?_)
          exact sy_vret C hr hlocks hP hS hw dX0_step_187
        · have hw := hw.2 hc17
          refine lv_aload_n hx hb dX0_step_149 rfl (lv_at hl 1 rfl) ?_
          refine lv_aload_n hx hb dX0_step_150 rfl (lv_at hl 1 rfl) ?_
          refine sy_goi (sy_runV C hP ho rfl (m_X0_goesElsewhere l G hi _ ho _ _ hw) mw_X0_goesElsewhere w_460 ws_17 w_458 (rest := [.ref (G.2.2 o)]) rfl hl.1 rfl (Nat.le_of_ble_eq_true rfl) ⟨Nat.le_of_ble_eq_true rfl, Nat.le_of_ble_eq_true rfl⟩ dX0_step_151 ⟨Nat.zero_le _, Nat.zero_le _⟩) hS (fun _ h => h) (fun r21 T20 H locs hw hP hS => ?_)
          refine lv_if_eq (tgt := 171) hx hb dX0_step_154 (by decide) (fun hc22 => ?_) (fun hc22 => ?_)
          · have hw := hw.1 hc22
            refine lv_iload_n hx hb dX0_step_171 rfl (lv_at hl 0 rfl) ?_
            refine pf_X0_39 C hP hS (fun _ h => h) (o := o) ho dX0_step_172 (fun H locs hP hS => ?_)
            refine lv_goto (tgt := 187) hx hb dX0_step_175 (by decide) ?_
            exact sy_vret C hr hlocks hP hS hw dX0_step_187
          · have hw := hw.2 hc22
            refine lv_iload_n hx hb dX0_step_157 rfl (lv_at hl 0 rfl) ?_
            refine lv_aload_n hx hb dX0_step_158 rfl (lv_at hl 1 rfl) ?_
            refine gf_X0_110 C hP (o := o) ho dX0_step_159 ?_
            refine lv_i2b hx hb dX0_step_162 rfl ?_
            refine lv_iadd hx hb dX0_step_163 ?_
            refine lv_sipush (v := 255) hx hb dX0_step_164 (by decide) ?_
            refine lv_iand hx hb dX0_step_167 ?_
            refine lv_goto (tgt := 172) hx hb dX0_step_168 (by decide) ?_
            refine pf_X0_39 C hP hS (fun _ h => h) (o := o) ho dX0_step_172 (fun H locs hP hS => ?_)
            refine lv_goto (tgt := 187) hx hb dX0_step_175 (by decide) ?_
            exact sy_vret C hr hlocks hP hS hw dX0_step_187
      · have hw := hw.2 hc14
        refine lv_aload_n hx hb dX0_step_130 rfl (lv_at hl 1 rfl) ?_
        refine lv_iload_n hx hb dX0_step_131 rfl (lv_at hl 0 rfl) ?_
        refine lv_iload_n hx hb dX0_step_132 rfl (lv_at hl 2 rfl) ?_
        refine sy_gov (sy_runV C hP ho rfl (m_X0_enterCalled l G hi _ _ _ ho _ _ hw) mw_X0_enterCalled w_455 ws_16 w_453 (rest := []) rfl hl.1 rfl (Nat.le_of_ble_eq_true rfl) ⟨Nat.le_of_ble_eq_true rfl, Nat.le_of_ble_eq_true rfl⟩ dX0_step_133 ⟨Nat.zero_le _, Nat.zero_le _⟩) hS (fun _ h => h) (fun T23 H locs hw hP hS => ?_)
        refine lv_goto (tgt := 187) hx hb dX0_step_136 (by decide) ?_
        exact sy_vret C hr hlocks hP hS hw dX0_step_187
    · have hw := hw.2 hc13
      refine lv_aload_n hx hb dX0_step_114 rfl (lv_at hl 1 rfl) ?_
      refine sy_gov (sy_runV C hP ho rfl (m_X0_leave l G hi _ ho _ _ hw) mw_X0_leave w_451 ws_15 w_449 (rest := []) rfl hl.1 rfl (Nat.le_of_ble_eq_true rfl) ⟨Nat.le_of_ble_eq_true rfl, Nat.le_of_ble_eq_true rfl⟩ dX0_step_115 ⟨Nat.zero_le _, Nat.zero_le _⟩) hS (fun _ h => h) (fun T25 H locs hw hP hS => ?_)
      refine lv_goto (tgt := 187) hx hb dX0_step_118 (by decide) ?_
      exact sy_vret C hr hlocks hP hS hw dX0_step_187
  have J28 : ∀ (j2_4 : Int32) (T5 : St), wj_X0_step_47 o a1  j2_4 T5 post → ∀ (H : Heap) (locs : List Loc), va_P G.1 sc_cl (wd G T5) H → va_S (SA G) s.heap H locs → ∀ ls : Array Slot, lv_has ls 4 [(0, .ref (G.2.2 o)), (1, .int a1), (2, .int j2_4)] → W p l e { frames := 3, cells := 0, slots := 0, locals := 84 } s m ([.ref (G.2.2 o), .int a1] : List Value).toArray below meth c H locs 0 0 (MQ below (va_Qv post (Sy G) (SA G)) ([.ref (G.2.2 o), .int a1] : List Value).toArray s 0 0 (SA G)) (F0 m 47 ls []) := by
    intro j2_4 T5  hw H locs hP hS ls hl
    unfold wj_X0_step_47 at hw
    refine lv_aload_n hx hb dX0_step_47 rfl (lv_at hl 0 rfl) ?_
    refine gf_X0_107 C hP (o := o) ho dX0_step_48 ?_
    refine sy_goi (sy_runSN C hP (m_X6_isKind l G hi _ _ _ hw) mw_X6_isKind w_371 (List.mem_of_getElem? (i := 5) rfl) (rest := []) rfl hl.1 rfl (Nat.le_of_ble_eq_true rfl) ⟨Nat.le_of_ble_eq_true rfl, Nat.le_of_ble_eq_true rfl⟩ dX0_step_51 ⟨Nat.zero_le _, Nat.zero_le _⟩) hS (fun _ h => h) (fun r7 T6 H locs hw hP hS => ?_)
    refine lv_if_ne (tgt := 63) hx hb dX0_step_54 (by decide) (fun hc8 => ?_) (fun hc8 => ?_)
    · have hw := hw.1 hc8
      refine lv_iload_n hx hb dX0_step_63 rfl (lv_at hl 2 rfl) ?_
      refine lv_if_eq (tgt := 80) hx hb dX0_step_64 (by decide) (fun hc9 => ?_) (fun hc9 => ?_)
      · have hw := hw.1 hc9
        refine lv_aload_n hx hb dX0_step_80 rfl (lv_at hl 0 rfl) ?_
        refine lv_dup hx hb dX0_step_81 rfl ?_
        refine gf_X0_45 C hP (o := o) ho dX0_step_82 ?_
        refine lv_iconst (v := 1) hx hb dX0_step_85 (by decide) ?_
        refine lv_iadd hx hb dX0_step_86 ?_
        refine pf_X0_45 C hP hS (fun _ h => h) (o := o) ho dX0_step_87 (fun H locs hP hS => ?_)
        exact J27 _  hw _ _ hP hS ls (lv_sub hl [0, 1] rfl)
      · have hw := hw.2 hc9
        refine lv_aload_n hx hb dX0_step_67 rfl (lv_at hl 0 rfl) ?_
        refine lv_dup hx hb dX0_step_68 rfl ?_
        refine gf_X0_42 C hP (o := o) ho dX0_step_69 ?_
        refine lv_iconst (v := 1) hx hb dX0_step_72 (by decide) ?_
        refine lv_iadd hx hb dX0_step_73 ?_
        refine pf_X0_42 C hP hS (fun _ h => h) (o := o) ho dX0_step_74 (fun H locs hP hS => ?_)
        refine lv_goto (tgt := 90) hx hb dX0_step_77 (by decide) ?_
        exact J27 _  hw _ _ hP hS ls (lv_sub hl [0, 1] rfl)
    · have hw := hw.2 hc8
      refine lv_aload_n hx hb dX0_step_57 rfl (lv_at hl 0 rfl) ?_
      refine lv_iconst (v := (-1)) hx hb dX0_step_58 (by decide) ?_
      refine pf_X0_54 C hP hS (fun _ h => h) (o := o) ho dX0_step_59 (fun H locs hP hS => ?_)
      exact sy_vret C hr hlocks hP hS hw dX0_step_62
  refine lv_aload_n hx hb dX0_step_0 rfl (lv_at hl 0 rfl) ?_
  refine sy_goi (sy_runV C hP ho rfl (m_X0_fetchFromMember l G hi _ ho _ _ hw) mw_X0_fetchFromMember w_443 ws_14 w_441 (rest := []) rfl hl.1 rfl (Nat.le_of_ble_eq_true rfl) ⟨Nat.le_of_ble_eq_true rfl, Nat.le_of_ble_eq_true rfl⟩ dX0_step_1 ⟨Nat.zero_le _, Nat.zero_le _⟩) hS (fun _ h => h) (fun r2 T1 H locs hw hP hS => ?_)
  refine lv_istore_n (lv' := [(2, .int r2), (0, .ref (G.2.2 o)), (1, .int a1)]) hx hb dX0_step_4 rfl hl (by decide) rfl (fun ls hl => ?_)
  refine lv_iload_n hx hb dX0_step_5 rfl (lv_at hl 0 rfl) ?_
  refine lv_if_ne (tgt := 47) hx hb dX0_step_6 (by decide) (fun hc3 => ?_) (fun hc3 => ?_)
  · have hw := hw.1 hc3
    exact J28 _ _  hw _ _ hP hS ls (lv_sub hl [1, 2, 0] rfl)
  · have hw := hw.2 hc3
    refine lv_aload_n hx hb dX0_step_9 rfl (lv_at hl 1 rfl) ?_
    refine lv_aload_n hx hb dX0_step_10 rfl (lv_at hl 1 rfl) ?_
    refine gf_X0_18 C hP (o := o) ho dX0_step_11 ?_
    refine gf_X0_104 C hP (o := (mo o)) (ko_co ho).1 dX0_step_14 ?_
    refine lv_aload_n hx hb dX0_step_17 rfl (lv_at hl 1 rfl) ?_
    refine gf_X0_39 C hP (o := o) ho dX0_step_18 ?_
    obtain ⟨hn29, hw⟩ := hw
    refine sy_iald C hP (o := ((mo o) + 1)) (ko_by (ko_co ho).1).1 (ko_by (ko_co ho).1).2 hn29 dX0_step_21 ?_
    refine pf_X0_107 C hP hS (fun _ h => h) (o := o) ho dX0_step_22 (fun H locs hP hS => ?_)
    refine lv_aload_n hx hb dX0_step_25 rfl (lv_at hl 1 rfl) ?_
    refine lv_aload_n hx hb dX0_step_26 rfl (lv_at hl 1 rfl) ?_
    refine gf_X0_18 C hP (o := o) ho dX0_step_27 ?_
    refine gf_X0_104 C hP (o := (mo o)) (ko_co ho).1 dX0_step_30 ?_
    refine lv_aload_n hx hb dX0_step_33 rfl (lv_at hl 1 rfl) ?_
    refine gf_X0_39 C hP (o := o) ho dX0_step_34 ?_
    refine lv_iconst (v := 1) hx hb dX0_step_37 (by decide) ?_
    refine lv_iadd hx hb dX0_step_38 ?_
    refine lv_sipush (v := 255) hx hb dX0_step_39 (by decide) ?_
    refine lv_iand hx hb dX0_step_42 ?_
    obtain ⟨hn30, hw⟩ := hw
    refine sy_iald C hP (o := ((mo o) + 1)) (ko_by (ko_co ho).1).1 (ko_by (ko_co ho).1).2 hn30 dX0_step_43 ?_
    refine pf_X0_110 C hP hS (fun _ h => h) (o := o) ho dX0_step_44 (fun H locs hP hS => ?_)
    obtain ⟨T31, eT31, hP⟩ := nameT (P := fun T => va_P G.1 sc_cl (wd G T) H) hP
    have hw := hw T31 eT31
    exact J28 _ _  hw _ _ hP hS ls (lv_sub hl [1, 2, 0] rfl)
theorem mw_J6_bitCount_0f7a4 : MW yJ6_bitCount_0f7a4 cJ6_bitCount_0f7a4 1 (some .int) 1 := ⟨w_473, w_18, by decide +kernel⟩
def wp_J6_bitCount_0f7a4 (a1 : Int32) (T : St) (post : Int32 → St → Prop) : Prop :=
  ∀ x1 : Int32, x1 = ((a1 - (((a1.toUInt32 >>> ((1 : Int32).toUInt32 &&& Int32.toUInt32 31)).toInt32) &&& 1431655765)) &&& 858993459) + ((((a1 - (((a1.toUInt32 >>> ((1 : Int32).toUInt32 &&& Int32.toUInt32 31)).toInt32) &&& 1431655765)).toUInt32 >>> ((2 : Int32).toUInt32 &&& Int32.toUInt32 31)).toInt32) &&& 858993459) → (∀ x2 : Int32, x2 = ((x1 + ((x1.toUInt32 >>> ((4 : Int32).toUInt32 &&& Int32.toUInt32 31)).toInt32)) &&& 252645135) + ((((x1 + ((x1.toUInt32 >>> ((4 : Int32).toUInt32 &&& Int32.toUInt32 31)).toInt32)) &&& 252645135).toUInt32 >>> ((8 : Int32).toUInt32 &&& Int32.toUInt32 31)).toInt32) → (post ((x2 + ((x2.toUInt32 >>> ((16 : Int32).toUInt32 &&& Int32.toUInt32 31)).toInt32)) &&& 63) T))
set_option maxHeartbeats 4000000 in
set_option maxRecDepth 100000 in
theorem m_J6_bitCount_0f7a4 (l : Launch) (G : Gm) (hi : Inj G) (a1 : Int32)  (T : St) (post : Int32 → St → Prop) (hw : wp_J6_bitCount_0f7a4 a1 T post) : Mi l yJ6_bitCount_0f7a4 cJ6_bitCount_0f7a4 1 (some .int) 0 0 G [.int a1] T post := by
  refine sy_head hi (by decide) (Nat.le_of_ble_eq_true rfl) (lv := [(0, .int a1)]) rfl ?_
  intro p e s m below meth c C hr hlocks hP hS ls hl
  have C : Cx p s m _ c cJ6_bitCount_0f7a4 1 RJ6 G := C
  obtain ⟨hx, hb, hml, hown, hg, hK, hN, -⟩ := id C
  unfold wp_J6_bitCount_0f7a4 at hw
  refine lv_iload_n hx hb dJ6_bitCount_0f7a4_0 rfl (lv_at hl 0 rfl) ?_
  refine lv_iload_n hx hb dJ6_bitCount_0f7a4_1 rfl (lv_at hl 0 rfl) ?_
  refine lv_iconst (v := 1) hx hb dJ6_bitCount_0f7a4_2 (by decide) ?_
  refine lv_iushr hx hb dJ6_bitCount_0f7a4_3 rfl ?_
  refine lv_ldcw (v := 1431655765) hx hb hown (hg _ w_474) dJ6_bitCount_0f7a4_4 ?_
  refine lv_iand hx hb dJ6_bitCount_0f7a4_7 ?_
  refine lv_isub hx hb dJ6_bitCount_0f7a4_8 ?_
  refine lv_istore_n (lv' := [(0, .int (a1 - (((a1.toUInt32 >>> ((1 : Int32).toUInt32 &&& Int32.toUInt32 31)).toInt32) &&& 1431655765)))]) hx hb dJ6_bitCount_0f7a4_9 rfl hl (by decide) rfl (fun ls hl => ?_)
  refine lv_iload_n hx hb dJ6_bitCount_0f7a4_10 rfl (lv_at hl 0 rfl) ?_
  refine lv_ldcw (v := 858993459) hx hb hown (hg _ w_475) dJ6_bitCount_0f7a4_11 ?_
  refine lv_iand hx hb dJ6_bitCount_0f7a4_14 ?_
  refine lv_iload_n hx hb dJ6_bitCount_0f7a4_15 rfl (lv_at hl 0 rfl) ?_
  refine lv_iconst (v := 2) hx hb dJ6_bitCount_0f7a4_16 (by decide) ?_
  refine lv_iushr hx hb dJ6_bitCount_0f7a4_17 rfl ?_
  refine lv_ldcw (v := 858993459) hx hb hown (hg _ w_475) dJ6_bitCount_0f7a4_18 ?_
  refine lv_iand hx hb dJ6_bitCount_0f7a4_21 ?_
  refine lv_iadd hx hb dJ6_bitCount_0f7a4_22 ?_
  refine lv_topi (fun x1 ex1 => ?_)
  have hw := hw x1 ex1
  refine lv_istore_n (lv' := [(0, .int x1)]) hx hb dJ6_bitCount_0f7a4_23 rfl hl (by decide) rfl (fun ls hl => ?_)
  refine lv_iload_n hx hb dJ6_bitCount_0f7a4_24 rfl (lv_at hl 0 rfl) ?_
  refine lv_iload_n hx hb dJ6_bitCount_0f7a4_25 rfl (lv_at hl 0 rfl) ?_
  refine lv_iconst (v := 4) hx hb dJ6_bitCount_0f7a4_26 (by decide) ?_
  refine lv_iushr hx hb dJ6_bitCount_0f7a4_27 rfl ?_
  refine lv_iadd hx hb dJ6_bitCount_0f7a4_28 ?_
  refine lv_ldcw (v := 252645135) hx hb hown (hg _ w_476) dJ6_bitCount_0f7a4_29 ?_
  refine lv_iand hx hb dJ6_bitCount_0f7a4_32 ?_
  refine lv_istore_n (lv' := [(0, .int ((x1 + ((x1.toUInt32 >>> ((4 : Int32).toUInt32 &&& Int32.toUInt32 31)).toInt32)) &&& 252645135))]) hx hb dJ6_bitCount_0f7a4_33 rfl hl (by decide) rfl (fun ls hl => ?_)
  refine lv_iload_n hx hb dJ6_bitCount_0f7a4_34 rfl (lv_at hl 0 rfl) ?_
  refine lv_iload_n hx hb dJ6_bitCount_0f7a4_35 rfl (lv_at hl 0 rfl) ?_
  refine lv_bipush (v := 8) hx hb dJ6_bitCount_0f7a4_36 (by decide) ?_
  refine lv_iushr hx hb dJ6_bitCount_0f7a4_38 rfl ?_
  refine lv_iadd hx hb dJ6_bitCount_0f7a4_39 ?_
  refine lv_topi (fun x2 ex2 => ?_)
  have hw := hw x2 ex2
  refine lv_istore_n (lv' := [(0, .int x2)]) hx hb dJ6_bitCount_0f7a4_40 rfl hl (by decide) rfl (fun ls hl => ?_)
  refine lv_iload_n hx hb dJ6_bitCount_0f7a4_41 rfl (lv_at hl 0 rfl) ?_
  refine lv_iload_n hx hb dJ6_bitCount_0f7a4_42 rfl (lv_at hl 0 rfl) ?_
  refine lv_bipush (v := 16) hx hb dJ6_bitCount_0f7a4_43 (by decide) ?_
  refine lv_iushr hx hb dJ6_bitCount_0f7a4_45 rfl ?_
  refine lv_iadd hx hb dJ6_bitCount_0f7a4_46 ?_
  refine lv_istore_n (lv' := [(0, .int (x2 + ((x2.toUInt32 >>> ((16 : Int32).toUInt32 &&& Int32.toUInt32 31)).toInt32)))]) hx hb dJ6_bitCount_0f7a4_47 rfl hl (by decide) rfl (fun ls hl => ?_)
  refine lv_iload_n hx hb dJ6_bitCount_0f7a4_48 rfl (lv_at hl 0 rfl) ?_
  refine lv_bipush (v := 63) hx hb dJ6_bitCount_0f7a4_49 (by decide) ?_
  refine lv_iand hx hb dJ6_bitCount_0f7a4_51 ?_
  exact sy_iret C hr hlocks hP hS hw dJ6_bitCount_0f7a4_52
theorem mw_X0_follow : MW yX0_follow cX0_follow 4 none 2 := ⟨w_436, w_7, by decide +kernel⟩
def wj_X0_follow_38 (o : Nat)   (T13 : St) (post : St → Prop) : Prop :=
  wp_J6_bitCount_0f7a4 ((T13.1 (mo o) 3) &&& ((T13.1 (mo o) 2) ^^^ (-1))) T13 (fun r15 T14 => post (sv (sv T14 o 13 r15) o 14 ((sv T14 o 13 r15).1 (mo o) 5)))
def wj_X0_follow_25 (o : Nat)   (T11 : St) (post : St → Prop) : Prop :=
  (¬ T11.1 o 15 = 0 → wj_X0_follow_38 o T11 post) ∧ (T11.1 o 15 = 0 → wj_X0_follow_38 o (sv T11 o 15 (-4)) post)
def wb_X0_follow_2 (o : Nat) (a1 : Int32) (a2 : Int32) (k3 : (Int32) → St → Prop) (v3_1 : Int32) (T2 : St) (post : St → Prop) : Prop :=
 (a1 ≤ v3_1 → wj_X0_follow_25 o T2 post) ∧ (¬ a1 ≤ v3_1 → (¬ T2.1 o 15 = 0 → wj_X0_follow_25 o T2 post) ∧ (T2.1 o 15 = 0 → wp_X0_step o a2 T2 (fun T19 => k3 (v3_1 + 1) T19)))
def wp_X0_follow (o : Nat) (a1 : Int32) (a2 : Int32) (T : St) (post : St → Prop) : Prop :=
  LW (fun kl (vl : Int32) Tl => wb_X0_follow_2 o a1 a2 kl vl Tl post) 0 T
set_option maxHeartbeats 4000000 in
set_option maxRecDepth 100000 in
theorem m_X0_follow (l : Launch) (G : Gm) (hi : Inj G) (o : Nat) (a1 : Int32) (a2 : Int32) (ho : ko o = 0) (T : St) (post : St → Prop) (hw : wp_X0_follow o a1 a2 T post) : Mv l yX0_follow cX0_follow 4 none 4 107 G [.ref (G.2.2 o), .int a1, .int a2] T post := by
  refine sy_head hi (by decide) (Nat.le_of_ble_eq_true rfl) (lv := [(0, .ref (G.2.2 o)), (1, .int a1), (2, .int a2)]) rfl ?_
  intro p e s m below meth c C hr hlocks hP hS ls hl
  have C : Cx p s m _ c cX0_follow 4 RX0 G := C
  obtain ⟨hx, hb, hml, hown, hg, hK, hN, -⟩ := id C
  unfold wp_X0_follow at hw
  have J16 : ∀  (T13 : St), wj_X0_follow_38 o   T13 post → ∀ (H : Heap) (locs : List Loc), va_P G.1 sc_cl (wd G T13) H → va_S (SA G) s.heap H locs → ∀ ls : Array Slot, lv_has ls 4 [(0, .ref (G.2.2 o))] → W p l e { frames := 4, cells := 0, slots := 0, locals := 107 } s m ([.ref (G.2.2 o), .int a1, .int a2] : List Value).toArray below meth c H locs 0 0 (MQ below (va_Qv post (Sy G) (SA G)) ([.ref (G.2.2 o), .int a1, .int a2] : List Value).toArray s 0 0 (SA G)) (F0 m 38 ls []) := by
    intro  T13  hw H locs hP hS ls hl
    unfold wj_X0_follow_38 at hw
    refine lv_aload_n hx hb dX0_follow_38 rfl (lv_at hl 0 rfl) ?_
    refine lv_aload_n hx hb dX0_follow_39 rfl (lv_at hl 0 rfl) ?_
    refine gf_X0_18 C hP (o := o) ho dX0_follow_40 ?_
    refine gf_X0_68 C hP (o := (mo o)) (ko_co ho).1 dX0_follow_43 ?_
    refine lv_aload_n hx hb dX0_follow_46 rfl (lv_at hl 0 rfl) ?_
    refine gf_X0_18 C hP (o := o) ho dX0_follow_47 ?_
    refine gf_X0_73 C hP (o := (mo o)) (ko_co ho).1 dX0_follow_50 ?_
    refine lv_iconst (v := (-1)) hx hb dX0_follow_53 (by decide) ?_
    refine lv_ixor hx hb dX0_follow_54 ?_
    refine lv_iand hx hb dX0_follow_55 ?_
    refine sy_goi (sy_runS C hP (m_J6_bitCount_0f7a4 l G hi _ _ _ hw) mw_J6_bitCount_0f7a4 w_472 w_471 (rest := [.ref (G.2.2 o)]) rfl hl.1 rfl (Nat.le_of_ble_eq_true rfl) ⟨Nat.le_of_ble_eq_true rfl, Nat.le_of_ble_eq_true rfl⟩ dX0_follow_56 ⟨Nat.zero_le _, Nat.zero_le _⟩) hS (fun _ h => h) (fun r15 T14 H locs hw hP hS => ?_)
    refine pf_X0_48 C hP hS (fun _ h => h) (o := o) ho dX0_follow_59 (fun H locs hP hS => ?_)
    refine lv_aload_n hx hb dX0_follow_62 rfl (lv_at hl 0 rfl) ?_
    refine lv_aload_n hx hb dX0_follow_63 rfl (lv_at hl 0 rfl) ?_
    refine gf_X0_18 C hP (o := o) ho dX0_follow_64 ?_
    refine gf_X0_82 C hP (o := (mo o)) (ko_co ho).1 dX0_follow_67 ?_
    refine pf_X0_51 C hP hS (fun _ h => h) (o := o) ho dX0_follow_70 (fun H locs hP hS => ?_)
    exact sy_vret C hr hlocks hP hS hw dX0_follow_73
  have J17 : ∀  (T11 : St), wj_X0_follow_25 o   T11 post → ∀ (H : Heap) (locs : List Loc), va_P G.1 sc_cl (wd G T11) H → va_S (SA G) s.heap H locs → ∀ ls : Array Slot, lv_has ls 4 [(0, .ref (G.2.2 o))] → W p l e { frames := 4, cells := 0, slots := 0, locals := 107 } s m ([.ref (G.2.2 o), .int a1, .int a2] : List Value).toArray below meth c H locs 0 0 (MQ below (va_Qv post (Sy G) (SA G)) ([.ref (G.2.2 o), .int a1, .int a2] : List Value).toArray s 0 0 (SA G)) (F0 m 25 ls []) := by
    intro  T11  hw H locs hP hS ls hl
    unfold wj_X0_follow_25 at hw
    refine lv_aload_n hx hb dX0_follow_25 rfl (lv_at hl 0 rfl) ?_
    refine gf_X0_54 C hP (o := o) ho dX0_follow_26 ?_
    refine lv_if_ne (tgt := 38) hx hb dX0_follow_29 (by decide) (fun hc12 => ?_) (fun hc12 => ?_)
    · have hw := hw.1 hc12
      exact J16 _  hw _ _ hP hS ls (lv_sub hl [0] rfl)
    · have hw := hw.2 hc12
      refine lv_aload_n hx hb dX0_follow_32 rfl (lv_at hl 0 rfl) ?_
      refine lv_bipush (v := (-4)) hx hb dX0_follow_33 (by decide) ?_
      refine pf_X0_54 C hP hS (fun _ h => h) (o := o) ho dX0_follow_35 (fun H locs hP hS => ?_)
      exact J16 _  hw _ _ hP hS ls (lv_sub hl [0] rfl)
  refine lv_iconst (v := 0) hx hb dX0_follow_0 (by decide) ?_
  refine lv_istore_n (lv' := [(3, .int 0), (0, .ref (G.2.2 o)), (1, .int a1), (2, .int a2)]) hx hb dX0_follow_1 rfl hl (by decide) rfl (fun ls hl => ?_)
  obtain ⟨I4, u5, hI, hst6⟩ := hw
  have L9 : ∀ (n : Nat) (v3_1 : Int32) (T2 : St), I4 v3_1 T2 → u5 v3_1 T2 < n → ∀ (H : Heap) (locs : List Loc), va_P G.1 sc_cl (wd G T2) H → va_S (SA G) s.heap H locs → ∀ ls : Array Slot, lv_has ls 4 [(3, .int v3_1), (0, .ref (G.2.2 o)), (1, .int a1), (2, .int a2)] → W p l e { frames := 4, cells := 0, slots := 0, locals := 107 } s m ([.ref (G.2.2 o), .int a1, .int a2] : List Value).toArray below meth c H locs 0 0 (MQ below (va_Qv post (Sy G) (SA G)) ([.ref (G.2.2 o), .int a1, .int a2] : List Value).toArray s 0 0 (SA G)) (F0 m 2 ls []) := by
    intro n
    induction n with
    | zero => intro _ _ _ h; exact absurd h (Nat.not_lt_zero _)
    | succ n ih7 =>
      intro v3_1 T2 hI hlt8 H locs hP hS ls hl
      have hw := hst6 v3_1 T2 hI
      unfold wb_X0_follow_2 at hw
      refine lv_iload_n hx hb dX0_follow_2 rfl (lv_at hl 0 rfl) ?_
      refine lv_iload_n hx hb dX0_follow_3 rfl (lv_at hl 2 rfl) ?_
      refine lv_icmp_ge (tgt := 25) hx hb dX0_follow_4 (by decide) (fun hc10 => ?_) (fun hc10 => ?_)
      · have hw := hw.1 hc10
        exact J17 _  hw _ _ hP hS ls (lv_sub hl [1] rfl)
      · have hw := hw.2 hc10
        refine lv_aload_n hx hb dX0_follow_7 rfl (lv_at hl 1 rfl) ?_
        refine gf_X0_54 C hP (o := o) ho dX0_follow_8 ?_
        refine lv_if_ne (tgt := 25) hx hb dX0_follow_11 (by decide) (fun hc18 => ?_) (fun hc18 => ?_)
        · have hw := hw.1 hc18
          exact J17 _  hw _ _ hP hS ls (lv_sub hl [1] rfl)
        · have hw := hw.2 hc18
          refine lv_aload_n hx hb dX0_follow_14 rfl (lv_at hl 1 rfl) ?_
          refine lv_iload_n hx hb dX0_follow_15 rfl (lv_at hl 3 rfl) ?_
          refine sy_gov (sy_runV C hP ho rfl (m_X0_step l G hi _ _ ho _ _ hw) mw_X0_step w_439 ws_13 w_437 (rest := []) rfl hl.1 rfl (Nat.le_of_ble_eq_true rfl) ⟨Nat.le_of_ble_eq_true rfl, Nat.le_of_ble_eq_true rfl⟩ dX0_follow_16 ⟨Nat.zero_le _, Nat.zero_le _⟩) hS (fun _ h => h) (fun T19 H locs hw hP hS => ?_)
          refine lv_iinc (v := v3_1 + 1) (lv' := [(3, .int (v3_1 + 1)), (0, .ref (G.2.2 o)), (1, .int a1), (2, .int a2)]) hx hb dX0_follow_19 hl (k := 0) rfl rfl (by decide) rfl (fun ls hl => ?_)
          refine lv_goto (tgt := 2) hx hb dX0_follow_22 (by decide) ?_
          exact ih7 _ _ hw.1 (Nat.lt_of_lt_of_le hw.2 (Nat.le_of_lt_succ hlt8)) _ _ hP hS ls (lv_sub hl [0, 1, 2, 3] rfl)
  exact L9 _ _ _ hI (Nat.lt_succ_self _) _ _ hP hS ls (lv_sub hl [0, 1, 2, 3] rfl)
theorem mw_X4_hasSameBytesAs : MW yX4_hasSameBytesAs cX4_hasSameBytesAs 3 (some .boolean) 1 := ⟨w_504, w_3, by decide +kernel⟩
def wb_X4_hasSameBytesAs_2 (o : Nat) (q1 : Nat) (k3 : (Int32) → St → Prop) (v2_1 : Int32) (T2 : St) (post : Int32 → St → Prop) : Prop :=
 (256 ≤ v2_1 → post 1 T2) ∧ (¬ 256 ≤ v2_1 → vp_in v2_1 256 ∧ (vp_in v2_1 256 ∧ ((T2.1 (o + 1) v2_1.toNatClampNeg = T2.1 (q1 + 1) v2_1.toNatClampNeg → k3 (v2_1 + 1) T2) ∧ (¬ T2.1 (o + 1) v2_1.toNatClampNeg = T2.1 (q1 + 1) v2_1.toNatClampNeg → post 0 T2))))
def wp_X4_hasSameBytesAs (o : Nat) (q1 : Nat) (T : St) (post : Int32 → St → Prop) : Prop :=
  LW (fun kl (vl : Int32) Tl => wb_X4_hasSameBytesAs_2 o q1 kl vl Tl post) 0 T
set_option maxHeartbeats 4000000 in
set_option maxRecDepth 100000 in
theorem m_X4_hasSameBytesAs (l : Launch) (G : Gm) (hi : Inj G) (o : Nat) (q1 : Nat) (ho : ko o = 4) (hq1 : ko q1 = 4) (T : St) (post : Int32 → St → Prop) (hw : wp_X4_hasSameBytesAs o q1 T post) : Mi l yX4_hasSameBytesAs cX4_hasSameBytesAs 3 (some .boolean) 0 0 G [.ref (G.2.2 o), .ref (G.2.2 q1)] T post := by
  refine sy_head hi (by decide) (Nat.le_of_ble_eq_true rfl) (lv := [(0, .ref (G.2.2 o)), (1, .ref (G.2.2 q1))]) rfl ?_
  intro p e s m below meth c C hr hlocks hP hS ls hl
  have C : Cx p s m _ c cX4_hasSameBytesAs 3 RX4 G := C
  obtain ⟨hx, hb, hml, hown, hg, hK, hN, -⟩ := id C
  unfold wp_X4_hasSameBytesAs at hw
  refine lv_iconst (v := 0) hx hb dX4_hasSameBytesAs_0 (by decide) ?_
  refine lv_istore_n (lv' := [(2, .int 0), (0, .ref (G.2.2 o)), (1, .ref (G.2.2 q1))]) hx hb dX4_hasSameBytesAs_1 rfl hl (by decide) rfl (fun ls hl => ?_)
  obtain ⟨I4, u5, hI, hst6⟩ := hw
  have L9 : ∀ (n : Nat) (v2_1 : Int32) (T2 : St), I4 v2_1 T2 → u5 v2_1 T2 < n → ∀ (H : Heap) (locs : List Loc), va_P G.1 sc_cl (wd G T2) H → va_S (SA G) s.heap H locs → ∀ ls : Array Slot, lv_has ls 3 [(2, .int v2_1), (0, .ref (G.2.2 o)), (1, .ref (G.2.2 q1))] → W p l e { frames := 0, cells := 0, slots := 0, locals := 0 } s m ([.ref (G.2.2 o), .ref (G.2.2 q1)] : List Value).toArray below meth c H locs 0 0 (MQ below (va_Qi post (Sy G) (SA G)) ([.ref (G.2.2 o), .ref (G.2.2 q1)] : List Value).toArray s 0 0 (SA G)) (F0 m 2 ls []) := by
    intro n
    induction n with
    | zero => intro _ _ _ h; exact absurd h (Nat.not_lt_zero _)
    | succ n ih7 =>
      intro v2_1 T2 hI hlt8 H locs hP hS ls hl
      have hw := hst6 v2_1 T2 hI
      unfold wb_X4_hasSameBytesAs_2 at hw
      refine lv_iload_n hx hb dX4_hasSameBytesAs_2 rfl (lv_at hl 0 rfl) ?_
      refine lv_sipush (v := 256) hx hb dX4_hasSameBytesAs_3 (by decide) ?_
      refine lv_icmp_ge (tgt := 32) hx hb dX4_hasSameBytesAs_6 (by decide) (fun hc10 => ?_) (fun hc10 => ?_)
      · have hw := hw.1 hc10
        refine lv_iconst (v := 1) hx hb dX4_hasSameBytesAs_32 (by decide) ?_
        exact sy_zret C hr hlocks hP hS rfl hw dX4_hasSameBytesAs_33
      · have hw := hw.2 hc10
        refine lv_aload_n hx hb dX4_hasSameBytesAs_9 rfl (lv_at hl 1 rfl) ?_
        refine gf_X4_9 C hP (o := o) ho dX4_hasSameBytesAs_10 ?_
        refine lv_iload_n hx hb dX4_hasSameBytesAs_13 rfl (lv_at hl 0 rfl) ?_
        obtain ⟨hn11, hw⟩ := hw
        refine sy_iald C hP (o := (o + 1)) (ko_by ho).1 (ko_by ho).2 hn11 dX4_hasSameBytesAs_14 ?_
        refine lv_aload_n hx hb dX4_hasSameBytesAs_15 rfl (lv_at hl 2 rfl) ?_
        refine gf_X4_9 C hP (o := q1) hq1 dX4_hasSameBytesAs_16 ?_
        refine lv_iload_n hx hb dX4_hasSameBytesAs_19 rfl (lv_at hl 0 rfl) ?_
        obtain ⟨hn12, hw⟩ := hw
        refine sy_iald C hP (o := (q1 + 1)) (ko_by hq1).1 (ko_by hq1).2 hn12 dX4_hasSameBytesAs_20 ?_
        refine lv_icmp_eq (tgt := 26) hx hb dX4_hasSameBytesAs_21 (by decide) (fun hc13 => ?_) (fun hc13 => ?_)
        · have hw := hw.1 hc13
          refine lv_iinc (v := v2_1 + 1) (lv' := [(2, .int (v2_1 + 1)), (0, .ref (G.2.2 o)), (1, .ref (G.2.2 q1))]) hx hb dX4_hasSameBytesAs_26 hl (k := 0) rfl rfl (by decide) rfl (fun ls hl => ?_)
          refine lv_goto (tgt := 2) hx hb dX4_hasSameBytesAs_29 (by decide) ?_
          exact ih7 _ _ hw.1 (Nat.lt_of_lt_of_le hw.2 (Nat.le_of_lt_succ hlt8)) _ _ hP hS ls (lv_sub hl [0, 1, 2] rfl)
        · have hw := hw.2 hc13
          refine lv_iconst (v := 0) hx hb dX4_hasSameBytesAs_24 (by decide) ?_
          exact sy_zret C hr hlocks hP hS rfl hw dX4_hasSameBytesAs_25
  exact L9 _ _ _ hI (Nat.lt_succ_self _) _ _ hP hS ls (lv_sub hl [0, 1, 2] rfl)
theorem mw_X0_cameToTheSameAs : MW yX0_cameToTheSameAs cX0_cameToTheSameAs 2 (some .boolean) 1 := ⟨w_499, w_7, by decide +kernel⟩
def wp_X0_cameToTheSameAs (o : Nat) (q1 : Nat) (T : St) (post : Int32 → St → Prop) : Prop :=
  (¬ T.1 o 15 = T.1 q1 15 → post 0 T) ∧ (T.1 o 15 = T.1 q1 15 → (¬ T.1 o 6 = T.1 q1 6 → post 0 T) ∧ (T.1 o 6 = T.1 q1 6 → (¬ T.1 o 7 = T.1 q1 7 → post 0 T) ∧ (T.1 o 7 = T.1 q1 7 → wp_X0_steps o T (fun r5 T4 => wp_X0_steps q1 T4 (fun r7 T6 => (¬ r5 = r7 → post 0 T6) ∧ (r5 = r7 → (¬ T6.1 o 8 = T6.1 q1 8 → post 0 T6) ∧ (T6.1 o 8 = T6.1 q1 8 → wp_X4_hasSameBytesAs (mo o) (mo q1) T6 (fun r11 T10 => (r11 = 0 → post 0 T10) ∧ (¬ r11 = 0 → post 1 T10)))))))))
set_option maxHeartbeats 4000000 in
set_option maxRecDepth 100000 in
theorem m_X0_cameToTheSameAs (l : Launch) (G : Gm) (hi : Inj G) (o : Nat) (q1 : Nat) (ho : ko o = 0) (hq1 : ko q1 = 0) (T : St) (post : Int32 → St → Prop) (hw : wp_X0_cameToTheSameAs o q1 T post) : Mi l yX0_cameToTheSameAs cX0_cameToTheSameAs 2 (some .boolean) 1 22 G [.ref (G.2.2 o), .ref (G.2.2 q1)] T post := by
  refine sy_head hi (by decide) (Nat.le_of_ble_eq_true rfl) (lv := [(0, .ref (G.2.2 o)), (1, .ref (G.2.2 q1))]) rfl ?_
  intro p e s m below meth c C hr hlocks hP hS ls hl
  have C : Cx p s m _ c cX0_cameToTheSameAs 2 RX0 G := C
  obtain ⟨hx, hb, hml, hown, hg, hK, hN, -⟩ := id C
  unfold wp_X0_cameToTheSameAs at hw
  refine lv_aload_n hx hb dX0_cameToTheSameAs_0 rfl (lv_at hl 0 rfl) ?_
  refine gf_X0_54 C hP (o := o) ho dX0_cameToTheSameAs_1 ?_
  refine lv_aload_n hx hb dX0_cameToTheSameAs_4 rfl (lv_at hl 1 rfl) ?_
  refine gf_X0_54 C hP (o := q1) hq1 dX0_cameToTheSameAs_5 ?_
  refine lv_icmp_ne (tgt := 73) hx hb dX0_cameToTheSameAs_8 (by decide) (fun hc1 => ?_) (fun hc1 => ?_)
  · have hw := hw.1 hc1
    refine lv_iconst (v := 0) hx hb dX0_cameToTheSameAs_73 (by decide) ?_
    exact sy_zret C hr hlocks hP hS rfl hw dX0_cameToTheSameAs_74
  · have hw := hw.2 hc1
    refine lv_aload_n hx hb dX0_cameToTheSameAs_11 rfl (lv_at hl 0 rfl) ?_
    refine gf_X0_33 C hP (o := o) ho dX0_cameToTheSameAs_12 ?_
    refine lv_aload_n hx hb dX0_cameToTheSameAs_15 rfl (lv_at hl 1 rfl) ?_
    refine gf_X0_33 C hP (o := q1) hq1 dX0_cameToTheSameAs_16 ?_
    refine lv_icmp_ne (tgt := 73) hx hb dX0_cameToTheSameAs_19 (by decide) (fun hc2 => ?_) (fun hc2 => ?_)
    · have hw := hw.1 hc2
      refine lv_iconst (v := 0) hx hb dX0_cameToTheSameAs_73 (by decide) ?_
      exact sy_zret C hr hlocks hP hS rfl hw dX0_cameToTheSameAs_74
    · have hw := hw.2 hc2
      refine lv_aload_n hx hb dX0_cameToTheSameAs_22 rfl (lv_at hl 0 rfl) ?_
      refine gf_X0_36 C hP (o := o) ho dX0_cameToTheSameAs_23 ?_
      refine lv_aload_n hx hb dX0_cameToTheSameAs_26 rfl (lv_at hl 1 rfl) ?_
      refine gf_X0_36 C hP (o := q1) hq1 dX0_cameToTheSameAs_27 ?_
      refine lv_icmp_ne (tgt := 73) hx hb dX0_cameToTheSameAs_30 (by decide) (fun hc3 => ?_) (fun hc3 => ?_)
      · have hw := hw.1 hc3
        refine lv_iconst (v := 0) hx hb dX0_cameToTheSameAs_73 (by decide) ?_
        exact sy_zret C hr hlocks hP hS rfl hw dX0_cameToTheSameAs_74
      · have hw := hw.2 hc3
        refine lv_aload_n hx hb dX0_cameToTheSameAs_33 rfl (lv_at hl 0 rfl) ?_
        refine sy_goi (sy_runV C hP ho rfl (m_X0_steps l G hi _ ho _ _ hw) mw_X0_steps w_482 w_483 w_500 (rest := []) rfl hl.1 rfl (Nat.le_of_ble_eq_true rfl) ⟨Nat.le_of_ble_eq_true rfl, Nat.le_of_ble_eq_true rfl⟩ dX0_cameToTheSameAs_34 ⟨Nat.zero_le _, Nat.zero_le _⟩) hS (fun _ h => h) (fun r5 T4 H locs hw hP hS => ?_)
        refine lv_aload_n hx hb dX0_cameToTheSameAs_37 rfl (lv_at hl 1 rfl) ?_
        refine sy_goi (sy_runV C hP hq1 rfl (m_X0_steps l G hi _ hq1 _ _ hw) mw_X0_steps w_482 w_483 w_500 (rest := [.int r5]) rfl hl.1 rfl (Nat.le_of_ble_eq_true rfl) ⟨Nat.le_of_ble_eq_true rfl, Nat.le_of_ble_eq_true rfl⟩ dX0_cameToTheSameAs_38 ⟨Nat.zero_le _, Nat.zero_le _⟩) hS (fun _ h => h) (fun r7 T6 H locs hw hP hS => ?_)
        refine lv_icmp_ne (tgt := 73) hx hb dX0_cameToTheSameAs_41 (by decide) (fun hc8 => ?_) (fun hc8 => ?_)
        · have hw := hw.1 hc8
          refine lv_iconst (v := 0) hx hb dX0_cameToTheSameAs_73 (by decide) ?_
          exact sy_zret C hr hlocks hP hS rfl hw dX0_cameToTheSameAs_74
        · have hw := hw.2 hc8
          refine lv_aload_n hx hb dX0_cameToTheSameAs_44 rfl (lv_at hl 0 rfl) ?_
          refine gf_X0_39 C hP (o := o) ho dX0_cameToTheSameAs_45 ?_
          refine lv_aload_n hx hb dX0_cameToTheSameAs_48 rfl (lv_at hl 1 rfl) ?_
          refine gf_X0_39 C hP (o := q1) hq1 dX0_cameToTheSameAs_49 ?_
          refine lv_icmp_ne (tgt := 73) hx hb dX0_cameToTheSameAs_52 (by decide) (fun hc9 => ?_) (fun hc9 => ?_)
          · have hw := hw.1 hc9
            refine lv_iconst (v := 0) hx hb dX0_cameToTheSameAs_73 (by decide) ?_
            exact sy_zret C hr hlocks hP hS rfl hw dX0_cameToTheSameAs_74
          · have hw := hw.2 hc9
            refine lv_aload_n hx hb dX0_cameToTheSameAs_55 rfl (lv_at hl 0 rfl) ?_
            refine gf_X0_18 C hP (o := o) ho dX0_cameToTheSameAs_56 ?_
            refine lv_aload_n hx hb dX0_cameToTheSameAs_59 rfl (lv_at hl 1 rfl) ?_
            refine gf_X0_18 C hP (o := q1) hq1 dX0_cameToTheSameAs_60 ?_
            refine sy_goi (sy_runV C hP (ko_co ho).1 rfl (m_X4_hasSameBytesAs l G hi _ _ (ko_co ho).1 (ko_co hq1).1 _ _ hw) mw_X4_hasSameBytesAs w_502 w_503 w_501 (rest := []) rfl hl.1 rfl (Nat.le_of_ble_eq_true rfl) ⟨Nat.le_of_ble_eq_true rfl, Nat.le_of_ble_eq_true rfl⟩ dX0_cameToTheSameAs_63 ⟨Nat.zero_le _, Nat.zero_le _⟩) hS (fun _ h => h) (fun r11 T10 H locs hw hP hS => ?_)
            refine lv_if_eq (tgt := 73) hx hb dX0_cameToTheSameAs_66 (by decide) (fun hc12 => ?_) (fun hc12 => ?_)
            · have hw := hw.1 hc12
              refine lv_iconst (v := 0) hx hb dX0_cameToTheSameAs_73 (by decide) ?_
              exact sy_zret C hr hlocks hP hS rfl hw dX0_cameToTheSameAs_74
            · have hw := hw.2 hc12
              refine lv_iconst (v := 1) hx hb dX0_cameToTheSameAs_69 (by decide) ?_
              refine lv_goto (tgt := 74) hx hb dX0_cameToTheSameAs_70 (by decide) ?_
              exact sy_zret C hr hlocks hP hS rfl hw dX0_cameToTheSameAs_74
theorem mw_X1_mark : MW yX1_mark cX1_mark 10 none 3 := ⟨w_315, w_2, by decide +kernel⟩
def wb_X1_mark_35 (q2 : Nat) (j4_2 : Int32) (s3 : Int32) (v6_5 : Int32) (k7 : Int32 → St → Prop) (k17 : (Int32) → St → Prop) (v7_15 : Int32) (T16 : St) (post : St → Prop) : Prop :=
  vp_in v6_5 24 ∧ (wp_X6_lengthOf (T16.1 (q2 + 2) v6_5.toNatClampNeg) T16 (fun r26 T25 => (r26 ≤ v7_15 → k7 (v6_5 + 1) T25) ∧ (¬ r26 ≤ v7_15 → vp_in v6_5 24 ∧ (vp_in (((T25.1 (q2 + 1) v6_5.toNatClampNeg) + v7_15) &&& 255) 256 ∧ (vp_in (((T25.1 (q2 + 1) v6_5.toNatClampNeg) + v7_15) &&& 255) 256 ∧ (∀ T31 : St, T31 = sv T25 2 ((((T25.1 (q2 + 1) v6_5.toNatClampNeg) + v7_15) &&& 255).toNatClampNeg) (((T25.1 2 (((T25.1 (q2 + 1) v6_5.toNatClampNeg) + v7_15) &&& 255).toNatClampNeg) &&& j4_2) ||| s3) → (vp_in ((((T25.1 (q2 + 1) v6_5.toNatClampNeg) + v7_15) &&& 255) >>> ((4 : Int32) &&& 31)) 16 ∧ (vp_in ((((T25.1 (q2 + 1) v6_5.toNatClampNeg) + v7_15) &&& 255) >>> ((4 : Int32) &&& 31)) 16 ∧ (∀ T34 : St, T34 = sv T31 3 (((((T25.1 (q2 + 1) v6_5.toNatClampNeg) + v7_15) &&& 255) >>> ((4 : Int32) &&& 31)).toNatClampNeg) (((T31.1 3 ((((T25.1 (q2 + 1) v6_5.toNatClampNeg) + v7_15) &&& 255) >>> ((4 : Int32) &&& 31)).toNatClampNeg) &&& j4_2) ||| s3) → (k17 (v7_15 + 1) T34))))))))))
def wb_X1_mark_23 (q2 : Nat) (j4_2 : Int32) (s3 : Int32) (k7 : (Int32) → St → Prop) (v6_5 : Int32) (T6 : St) (post : St → Prop) : Prop :=
 (T6.1 q2 3 ≤ v6_5 → post T6) ∧ (¬ T6.1 q2 3 ≤ v6_5 → LW (fun kl (vl : Int32) Tl => wb_X1_mark_35 q2 j4_2 s3 v6_5 k7 kl vl Tl post) 0 T6)
def wj_X1_mark_18 (q2 : Nat)  (j4_2 : Int32) (s3 : Int32) (T4 : St) (post : St → Prop) : Prop :=
  LW (fun kl (vl : Int32) Tl => wb_X1_mark_23 q2 j4_2 s3 kl vl Tl post) 0 T4
def wp_X1_mark (a1 : Int32) (q2 : Nat) (a3 : Int32) (T : St) (post : St → Prop) : Prop :=
  (a3 = 0 → wj_X1_mark_18 q2 (((1 : Int32) <<< (a1 &&& 31)) ^^^ (-1)) 0 T post) ∧ (¬ a3 = 0 → wj_X1_mark_18 q2 (((1 : Int32) <<< (a1 &&& 31)) ^^^ (-1)) ((1 : Int32) <<< (a1 &&& 31)) T post)
set_option maxHeartbeats 4000000 in
set_option maxRecDepth 100000 in
theorem m_X1_mark (l : Launch) (G : Gm) (hi : Inj G) (a1 : Int32) (q2 : Nat) (a3 : Int32) (hq2 : ko q2 = 3) (T : St) (post : St → Prop) (hw : wp_X1_mark a1 q2 a3 T post) : Mv l yX1_mark cX1_mark 10 none 2 40 G [.ref (G.2.2 1), .int a1, .ref (G.2.2 q2), .int a3] T post := by
  refine sy_head hi (by decide) (Nat.le_of_ble_eq_true rfl) (lv := [(0, .ref (G.2.2 1)), (1, .int a1), (2, .ref (G.2.2 q2)), (3, .int a3)]) rfl ?_
  intro p e s m below meth c C hr hlocks hP hS ls hl
  have C : Cx p s m _ c cX1_mark 10 RX1 G := C
  obtain ⟨hx, hb, hml, hown, hg, hK, hN, -⟩ := id C
  unfold wp_X1_mark at hw
  have J35 : ∀ (j4_2 : Int32) (s3 : Int32) (T4 : St), wj_X1_mark_18 q2  j4_2 s3 T4 post → ∀ (H : Heap) (locs : List Loc), va_P G.1 sc_cl (wd G T4) H → va_S (SA G) s.heap H locs → ∀ ls : Array Slot, lv_has ls 10 [(0, .ref (G.2.2 1)), (2, .ref (G.2.2 q2)), (4, .int j4_2)] → W p l e { frames := 2, cells := 0, slots := 0, locals := 40 } s m ([.ref (G.2.2 1), .int a1, .ref (G.2.2 q2), .int a3] : List Value).toArray below meth c H locs 0 0 (MQ below (va_Qv post (Sy G) (SA G)) ([.ref (G.2.2 1), .int a1, .ref (G.2.2 q2), .int a3] : List Value).toArray s 0 0 (SA G)) (F0 m 18 ls [.int s3]) := by
    intro j4_2 s3 T4  hw H locs hP hS ls hl
    unfold wj_X1_mark_18 at hw
    refine lv_istore (lv' := [(5, .int s3), (0, .ref (G.2.2 1)), (2, .ref (G.2.2 q2)), (4, .int j4_2)]) hx hb dX1_mark_18 hl (by decide) rfl (fun ls hl => ?_)
    refine lv_iconst (v := 0) hx hb dX1_mark_20 (by decide) ?_
    refine lv_istore (lv' := [(6, .int 0), (5, .int s3), (0, .ref (G.2.2 1)), (2, .ref (G.2.2 q2)), (4, .int j4_2)]) hx hb dX1_mark_21 hl (by decide) rfl (fun ls hl => ?_)
    obtain ⟨I8, u9, hI, hst10⟩ := hw
    have L13 : ∀ (n : Nat) (v6_5 : Int32) (T6 : St), I8 v6_5 T6 → u9 v6_5 T6 < n → ∀ (H : Heap) (locs : List Loc), va_P G.1 sc_cl (wd G T6) H → va_S (SA G) s.heap H locs → ∀ ls : Array Slot, lv_has ls 10 [(6, .int v6_5), (5, .int s3), (0, .ref (G.2.2 1)), (2, .ref (G.2.2 q2)), (4, .int j4_2)] → W p l e { frames := 2, cells := 0, slots := 0, locals := 40 } s m ([.ref (G.2.2 1), .int a1, .ref (G.2.2 q2), .int a3] : List Value).toArray below meth c H locs 0 0 (MQ below (va_Qv post (Sy G) (SA G)) ([.ref (G.2.2 1), .int a1, .ref (G.2.2 q2), .int a3] : List Value).toArray s 0 0 (SA G)) (F0 m 23 ls []) := by
      intro n
      induction n with
      | zero => intro _ _ _ h; exact absurd h (Nat.not_lt_zero _)
      | succ n ih11 =>
        intro v6_5 T6 hI hlt12 H locs hP hS ls hl
        have hw := hst10 v6_5 T6 hI
        unfold wb_X1_mark_23 at hw
        refine lv_iload hx hb dX1_mark_23 (lv_at hl 0 rfl) ?_
        refine lv_aload_n hx hb dX1_mark_25 rfl (lv_at hl 3 rfl) ?_
        refine gf_X1_18 C hP (o := q2) hq2 dX1_mark_26 ?_
        refine lv_icmp_ge (tgt := 124) hx hb dX1_mark_29 (by decide) (fun hc14 => ?_) (fun hc14 => ?_)
        · have hw := hw.1 hc14
          exact sy_vret C hr hlocks hP hS hw dX1_mark_124
        · have hw := hw.2 hc14
          refine lv_iconst (v := 0) hx hb dX1_mark_32 (by decide) ?_
          refine lv_istore (lv' := [(7, .int 0), (6, .int v6_5), (5, .int s3), (0, .ref (G.2.2 1)), (2, .ref (G.2.2 q2)), (4, .int j4_2)]) hx hb dX1_mark_33 hl (by decide) rfl (fun ls hl => ?_)
          obtain ⟨I18, u19, hI, hst20⟩ := hw
          have L23 : ∀ (n : Nat) (v7_15 : Int32) (T16 : St), I18 v7_15 T16 → u19 v7_15 T16 < n → ∀ (H : Heap) (locs : List Loc), va_P G.1 sc_cl (wd G T16) H → va_S (SA G) s.heap H locs → ∀ ls : Array Slot, lv_has ls 10 [(7, .int v7_15), (6, .int v6_5), (5, .int s3), (0, .ref (G.2.2 1)), (2, .ref (G.2.2 q2)), (4, .int j4_2)] → W p l e { frames := 2, cells := 0, slots := 0, locals := 40 } s m ([.ref (G.2.2 1), .int a1, .ref (G.2.2 q2), .int a3] : List Value).toArray below meth c H locs 0 0 (MQ below (va_Qv post (Sy G) (SA G)) ([.ref (G.2.2 1), .int a1, .ref (G.2.2 q2), .int a3] : List Value).toArray s 0 0 (SA G)) (F0 m 35 ls []) := by
            intro n
            induction n with
            | zero => intro _ _ _ h; exact absurd h (Nat.not_lt_zero _)
            | succ n ih21 =>
              intro v7_15 T16 hI hlt22 H locs hP hS ls hl
              have hw := hst20 v7_15 T16 hI
              unfold wb_X1_mark_35 at hw
              refine lv_iload hx hb dX1_mark_35 (lv_at hl 0 rfl) ?_
              refine lv_aload_n hx hb dX1_mark_37 rfl (lv_at hl 4 rfl) ?_
              refine gf_X1_24 C hP (o := q2) hq2 dX1_mark_38 ?_
              refine lv_iload hx hb dX1_mark_41 (lv_at hl 1 rfl) ?_
              obtain ⟨hn24, hw⟩ := hw
              refine sy_iald C hP (o := (q2 + 2)) (ko_mem hq2).2.1.1 (ko_mem hq2).2.1.2 hn24 dX1_mark_43 ?_
              refine sy_goi (sy_runSN C hP (m_X6_lengthOf l G hi _ _ _ hw) mw_X6_lengthOf w_317 (List.mem_of_getElem? (i := 0) rfl) (rest := [.int v7_15]) rfl hl.1 rfl (Nat.le_of_ble_eq_true rfl) ⟨Nat.le_of_ble_eq_true rfl, Nat.le_of_ble_eq_true rfl⟩ dX1_mark_44 ⟨Nat.zero_le _, Nat.zero_le _⟩) hS (fun _ h => h) (fun r26 T25 H locs hw hP hS => ?_)
              refine lv_icmp_ge (tgt := 118) hx hb dX1_mark_47 (by decide) (fun hc27 => ?_) (fun hc27 => ?_)
              · have hw := hw.1 hc27
                refine lv_iinc (v := v6_5 + 1) (lv' := [(6, .int (v6_5 + 1)), (7, .int v7_15), (5, .int s3), (0, .ref (G.2.2 1)), (2, .ref (G.2.2 q2)), (4, .int j4_2)]) hx hb dX1_mark_118 hl (k := 1) rfl rfl (by decide) rfl (fun ls hl => ?_)
                refine lv_goto (tgt := 23) hx hb dX1_mark_121 (by decide) ?_
                exact ih11 _ _ hw.1 (Nat.lt_of_lt_of_le hw.2 (Nat.le_of_lt_succ hlt12)) _ _ hP hS ls (lv_sub hl [0, 2, 3, 4, 5] rfl)
              · have hw := hw.2 hc27
                refine lv_aload_n hx hb dX1_mark_50 rfl (lv_at hl 4 rfl) ?_
                refine gf_X1_31 C hP (o := q2) hq2 dX1_mark_51 ?_
                refine lv_iload hx hb dX1_mark_54 (lv_at hl 1 rfl) ?_
                obtain ⟨hn28, hw⟩ := hw
                refine sy_iald C hP (o := (q2 + 1)) (ko_mem hq2).1.1 (ko_mem hq2).1.2 hn28 dX1_mark_56 ?_
                refine lv_iload hx hb dX1_mark_57 (lv_at hl 0 rfl) ?_
                refine lv_iadd hx hb dX1_mark_59 ?_
                refine lv_sipush (v := 255) hx hb dX1_mark_60 (by decide) ?_
                refine lv_iand hx hb dX1_mark_63 ?_
                refine lv_istore (lv' := [(8, .int (((T25.1 (q2 + 1) v6_5.toNatClampNeg) + v7_15) &&& 255)), (7, .int v7_15), (6, .int v6_5), (5, .int s3), (0, .ref (G.2.2 1)), (2, .ref (G.2.2 q2)), (4, .int j4_2)]) hx hb dX1_mark_64 hl (by decide) rfl (fun ls hl => ?_)
                refine lv_iload hx hb dX1_mark_66 (lv_at hl 0 rfl) ?_
                refine lv_iconst (v := 4) hx hb dX1_mark_68 (by decide) ?_
                refine lv_ishr hx hb dX1_mark_69 ?_
                refine lv_istore (lv' := [(9, .int ((((T25.1 (q2 + 1) v6_5.toNatClampNeg) + v7_15) &&& 255) >>> ((4 : Int32) &&& 31))), (8, .int (((T25.1 (q2 + 1) v6_5.toNatClampNeg) + v7_15) &&& 255)), (7, .int v7_15), (6, .int v6_5), (5, .int s3), (0, .ref (G.2.2 1)), (2, .ref (G.2.2 q2)), (4, .int j4_2)]) hx hb dX1_mark_70 hl (by decide) rfl (fun ls hl => ?_)
                refine lv_aload_n hx hb dX1_mark_72 rfl (lv_at hl 5 rfl) ?_
                refine gf_X1_9 C hP (o := 1) rfl dX1_mark_73 ?_
                refine lv_iload hx hb dX1_mark_76 (lv_at hl 1 rfl) ?_
                refine lv_aload_n hx hb dX1_mark_78 rfl (lv_at hl 5 rfl) ?_
                refine gf_X1_9 C hP (o := 1) rfl dX1_mark_79 ?_
                refine lv_iload hx hb dX1_mark_82 (lv_at hl 1 rfl) ?_
                obtain ⟨hn29, hw⟩ := hw
                refine sy_iald C hP (o := 2) rfl rfl hn29 dX1_mark_84 ?_
                refine lv_iload hx hb dX1_mark_85 (lv_at hl 7 rfl) ?_
                refine lv_iand hx hb dX1_mark_87 ?_
                refine lv_iload hx hb dX1_mark_88 (lv_at hl 4 rfl) ?_
                refine lv_ior hx hb dX1_mark_90 ?_
                obtain ⟨hn30, hw⟩ := hw
                refine sy_iast C hP hS (fun _ h => h) (o := 2) rfl rfl hn30 dX1_mark_91 (fun H locs hP hS => ?_)
                obtain ⟨T31, eT31, hP⟩ := nameT (P := fun T => va_P G.1 sc_cl (wd G T) H) hP
                have hw := hw T31 eT31
                refine lv_aload_n hx hb dX1_mark_92 rfl (lv_at hl 5 rfl) ?_
                refine gf_X1_15 C hP (o := 1) rfl dX1_mark_93 ?_
                refine lv_iload hx hb dX1_mark_96 (lv_at hl 0 rfl) ?_
                refine lv_aload_n hx hb dX1_mark_98 rfl (lv_at hl 5 rfl) ?_
                refine gf_X1_15 C hP (o := 1) rfl dX1_mark_99 ?_
                refine lv_iload hx hb dX1_mark_102 (lv_at hl 0 rfl) ?_
                obtain ⟨hn32, hw⟩ := hw
                refine sy_iald C hP (o := 3) rfl rfl hn32 dX1_mark_104 ?_
                refine lv_iload hx hb dX1_mark_105 (lv_at hl 7 rfl) ?_
                refine lv_iand hx hb dX1_mark_107 ?_
                refine lv_iload hx hb dX1_mark_108 (lv_at hl 4 rfl) ?_
                refine lv_ior hx hb dX1_mark_110 ?_
                obtain ⟨hn33, hw⟩ := hw
                refine sy_iast C hP hS (fun _ h => h) (o := 3) rfl rfl hn33 dX1_mark_111 (fun H locs hP hS => ?_)
                obtain ⟨T34, eT34, hP⟩ := nameT (P := fun T => va_P G.1 sc_cl (wd G T) H) hP
                have hw := hw T34 eT34
                refine lv_iinc (v := v7_15 + 1) (lv' := [(7, .int (v7_15 + 1)), (9, .int ((((T25.1 (q2 + 1) v6_5.toNatClampNeg) + v7_15) &&& 255) >>> ((4 : Int32) &&& 31))), (8, .int (((T25.1 (q2 + 1) v6_5.toNatClampNeg) + v7_15) &&& 255)), (6, .int v6_5), (5, .int s3), (0, .ref (G.2.2 1)), (2, .ref (G.2.2 q2)), (4, .int j4_2)]) hx hb dX1_mark_112 hl (k := 2) rfl rfl (by decide) rfl (fun ls hl => ?_)
                refine lv_goto (tgt := 35) hx hb dX1_mark_115 (by decide) ?_
                exact ih21 _ _ hw.1 (Nat.lt_of_lt_of_le hw.2 (Nat.le_of_lt_succ hlt22)) _ _ hP hS ls (lv_sub hl [0, 3, 4, 5, 6, 7] rfl)
          exact L23 _ _ _ hI (Nat.lt_succ_self _) _ _ hP hS ls (lv_sub hl [0, 1, 2, 3, 4, 5] rfl)
    exact L13 _ _ _ hI (Nat.lt_succ_self _) _ _ hP hS ls (lv_sub hl [0, 1, 2, 3, 4] rfl)
  refine lv_iconst (v := 1) hx hb dX1_mark_0 (by decide) ?_
  refine lv_iload_n hx hb dX1_mark_1 rfl (lv_at hl 1 rfl) ?_
  refine lv_ishl hx hb dX1_mark_2 ?_
  refine lv_iconst (v := (-1)) hx hb dX1_mark_3 (by decide) ?_
  refine lv_ixor hx hb dX1_mark_4 ?_
  refine lv_istore (lv' := [(4, .int (((1 : Int32) <<< (a1 &&& 31)) ^^^ (-1))), (0, .ref (G.2.2 1)), (1, .int a1), (2, .ref (G.2.2 q2)), (3, .int a3)]) hx hb dX1_mark_5 hl (by decide) rfl (fun ls hl => ?_)
  refine lv_iload_n hx hb dX1_mark_7 rfl (lv_at hl 4 rfl) ?_
  refine lv_if_eq (tgt := 17) hx hb dX1_mark_8 (by decide) (fun hc1 => ?_) (fun hc1 => ?_)
  · have hw := hw.1 hc1
    refine lv_iconst (v := 0) hx hb dX1_mark_17 (by decide) ?_
    exact J35 _ _ _  hw _ _ hP hS ls (lv_sub hl [1, 3, 0] rfl)
  · have hw := hw.2 hc1
    refine lv_iconst (v := 1) hx hb dX1_mark_11 (by decide) ?_
    refine lv_iload_n hx hb dX1_mark_12 rfl (lv_at hl 2 rfl) ?_
    refine lv_ishl hx hb dX1_mark_13 ?_
    refine lv_goto (tgt := 18) hx hb dX1_mark_14 (by decide) ?_
    exact J35 _ _ _  hw _ _ hP hS ls (lv_sub hl [1, 3, 0] rfl)
theorem mw_J7_fill_53178 : MW yJ7_fill_53178 cJ7_fill_53178 4 none 2 := ⟨w_566, w_20, by decide +kernel⟩
def wb_J7_fill_53178_5 (q1 : Nat) (n1 : Nat) (a2 : Int32) (k3 : (Int32) → St → Prop) (v2_1 : Int32) (T2 : St) (post : St → Prop) : Prop :=
 ((Int32.ofNat n1) ≤ v2_1 → post T2) ∧ (¬ (Int32.ofNat n1) ≤ v2_1 → vp_in v2_1 n1 ∧ (k3 (v2_1 + 1) (sv T2 q1 (v2_1.toNatClampNeg) a2)))
def wp_J7_fill_53178 (q1 : Nat) (n1 : Nat) (a2 : Int32) (T : St) (post : St → Prop) : Prop :=
  LW (fun kl (vl : Int32) Tl => wb_J7_fill_53178_5 q1 n1 a2 kl vl Tl post) 0 T
set_option maxHeartbeats 4000000 in
set_option maxRecDepth 100000 in
theorem m_J7_fill_53178 (l : Launch) (G : Gm) (hi : Inj G) (q1 : Nat) (n1 : Nat) (a2 : Int32) (hq1 : ko q1 = 10) (nq1 : len q1 = n1) (T : St) (post : St → Prop) (hw : wp_J7_fill_53178 q1 n1 a2 T post) : Mv l yJ7_fill_53178 cJ7_fill_53178 4 none 0 0 G [.ref (G.2.2 q1), .int a2] T post := by
  refine sy_head hi (by decide) (Nat.le_of_ble_eq_true rfl) (lv := [(0, .ref (G.2.2 q1)), (1, .int a2)]) rfl ?_
  intro p e s m below meth c C hr hlocks hP hS ls hl
  have C : Cx p s m _ c cJ7_fill_53178 4 RJ7 G := C
  obtain ⟨hx, hb, hml, hown, hg, hK, hN, -⟩ := id C
  unfold wp_J7_fill_53178 at hw
  refine lv_iconst (v := 0) hx hb dJ7_fill_53178_0 (by decide) ?_
  refine lv_istore_n (lv' := [(2, .int 0), (0, .ref (G.2.2 q1)), (1, .int a2)]) hx hb dJ7_fill_53178_1 rfl hl (by decide) rfl (fun ls hl => ?_)
  refine lv_aload_n hx hb dJ7_fill_53178_2 rfl (lv_at hl 1 rfl) ?_
  refine sy_alen C hP (o := q1) hq1 nq1 rfl dJ7_fill_53178_3 ?_
  refine lv_istore_n (lv' := [(3, .int (Int32.ofNat n1)), (2, .int 0), (0, .ref (G.2.2 q1)), (1, .int a2)]) hx hb dJ7_fill_53178_4 rfl hl (by decide) rfl (fun ls hl => ?_)
  obtain ⟨I4, u5, hI, hst6⟩ := hw
  have L9 : ∀ (n : Nat) (v2_1 : Int32) (T2 : St), I4 v2_1 T2 → u5 v2_1 T2 < n → ∀ (H : Heap) (locs : List Loc), va_P G.1 sc_cl (wd G T2) H → va_S (SA G) s.heap H locs → ∀ ls : Array Slot, lv_has ls 4 [(3, .int (Int32.ofNat n1)), (2, .int v2_1), (0, .ref (G.2.2 q1)), (1, .int a2)] → W p l e { frames := 0, cells := 0, slots := 0, locals := 0 } s m ([.ref (G.2.2 q1), .int a2] : List Value).toArray below meth c H locs 0 0 (MQ below (va_Qv post (Sy G) (SA G)) ([.ref (G.2.2 q1), .int a2] : List Value).toArray s 0 0 (SA G)) (F0 m 5 ls []) := by
    intro n
    induction n with
    | zero => intro _ _ _ h; exact absurd h (Nat.not_lt_zero _)
    | succ n ih7 =>
      intro v2_1 T2 hI hlt8 H locs hP hS ls hl
      have hw := hst6 v2_1 T2 hI
      unfold wb_J7_fill_53178_5 at hw
      refine lv_iload_n hx hb dJ7_fill_53178_5 rfl (lv_at hl 1 rfl) ?_
      refine lv_iload_n hx hb dJ7_fill_53178_6 rfl (lv_at hl 0 rfl) ?_
      refine lv_icmp_ge (tgt := 20) hx hb dJ7_fill_53178_7 (by decide) (fun hc10 => ?_) (fun hc10 => ?_)
      · have hw := hw.1 hc10
        exact sy_vret C hr hlocks hP hS hw dJ7_fill_53178_20
      · have hw := hw.2 hc10
        refine lv_aload_n hx hb dJ7_fill_53178_10 rfl (lv_at hl 2 rfl) ?_
        refine lv_iload_n hx hb dJ7_fill_53178_11 rfl (lv_at hl 1 rfl) ?_
        refine lv_iload_n hx hb dJ7_fill_53178_12 rfl (lv_at hl 3 rfl) ?_
        obtain ⟨hn11, hw⟩ := hw
        refine sy_iast C hP hS (fun _ h => h) (o := q1) hq1 nq1 hn11 dJ7_fill_53178_13 (fun H locs hP hS => ?_)
        refine lv_iinc (v := v2_1 + 1) (lv' := [(2, .int (v2_1 + 1)), (3, .int (Int32.ofNat n1)), (0, .ref (G.2.2 q1)), (1, .int a2)]) hx hb dJ7_fill_53178_14 hl (k := 1) rfl rfl (by decide) rfl (fun ls hl => ?_)
        refine lv_goto (tgt := 5) hx hb dJ7_fill_53178_17 (by decide) ?_
        exact ih7 _ _ hw.1 (Nat.lt_of_lt_of_le hw.2 (Nat.le_of_lt_succ hlt8)) _ _ hP hS ls (lv_sub hl [1, 0, 2, 3] rfl)
  exact L9 _ _ _ hI (Nat.lt_succ_self _) _ _ hP hS ls (lv_sub hl [0, 1, 2, 3] rfl)
theorem mw_X1_empty : MW yX1_empty cX1_empty 1 none 0 := ⟨w_570, w_2, by decide +kernel⟩
def wp_X1_empty (T : St) (post : St → Prop) : Prop :=
  wp_J7_fill_53178 2 256 0 T (fun T1 => wp_J7_fill_53178 3 16 0 T1 (fun T3 => post T3))
set_option maxHeartbeats 4000000 in
set_option maxRecDepth 100000 in
theorem m_X1_empty (l : Launch) (G : Gm) (hi : Inj G)   (T : St) (post : St → Prop) (hw : wp_X1_empty T post) : Mv l yX1_empty cX1_empty 1 none 1 23 G [.ref (G.2.2 1)] T post := by
  refine sy_head hi (by decide) (Nat.le_of_ble_eq_true rfl) (lv := [(0, .ref (G.2.2 1))]) rfl ?_
  intro p e s m below meth c C hr hlocks hP hS ls hl
  have C : Cx p s m _ c cX1_empty 1 RX1 G := C
  obtain ⟨hx, hb, hml, hown, hg, hK, hN, -⟩ := id C
  unfold wp_X1_empty at hw
  refine lv_aload_n hx hb dX1_empty_0 rfl (lv_at hl 0 rfl) ?_
  refine gf_X1_9 C hP (o := 1) rfl dX1_empty_1 ?_
  refine lv_iconst (v := 0) hx hb dX1_empty_4 (by decide) ?_
  refine sy_gov (sy_runS C hP (m_J7_fill_53178 l G hi _ _ _ rfl rfl _ _ hw) mw_J7_fill_53178 w_565 w_571 (rest := []) rfl hl.1 rfl (Nat.le_of_ble_eq_true rfl) ⟨Nat.le_of_ble_eq_true rfl, Nat.le_of_ble_eq_true rfl⟩ dX1_empty_5 ⟨Nat.zero_le _, Nat.zero_le _⟩) hS (fun _ h => h) (fun T1 H locs hw hP hS => ?_)
  refine lv_aload_n hx hb dX1_empty_8 rfl (lv_at hl 0 rfl) ?_
  refine gf_X1_15 C hP (o := 1) rfl dX1_empty_9 ?_
  refine lv_iconst (v := 0) hx hb dX1_empty_12 (by decide) ?_
  refine sy_gov (sy_runS C hP (m_J7_fill_53178 l G hi _ _ _ rfl rfl _ _ hw) mw_J7_fill_53178 w_565 w_571 (rest := []) rfl hl.1 rfl (Nat.le_of_ble_eq_true rfl) ⟨Nat.le_of_ble_eq_true rfl, Nat.le_of_ble_eq_true rfl⟩ dX1_empty_13 ⟨Nat.zero_le _, Nat.zero_le _⟩) hS (fun _ h => h) (fun T3 H locs hw hP hS => ?_)
  exact sy_vret C hr hlocks hP hS hw dX1_empty_16
theorem mw_X2_note : MW yX2_note cX2_note 2 none 1 := ⟨w_284, w_4, by decide +kernel⟩
def wp_X2_note (q1 : Nat) (T : St) (post : St → Prop) : Prop :=
  vp_in (((T.1 7 1) + (T.1 7 2)) - ((T.1 7 1) + (T.1 7 2)) / 9 * 9) 9 ∧ (∀ T2 : St, T2 = sa T (8 + 1 + (((T.1 7 1) + (T.1 7 2)) - ((T.1 7 1) + (T.1 7 2)) / 9 * 9).toNatClampNeg) (va_cpy (T.1 q1) (T.1 (8 + 1 + (((T.1 7 1) + (T.1 7 2)) - ((T.1 7 1) + (T.1 7 2)) / 9 * 9).toNatClampNeg)) 0 0 256) → (post T2))
set_option maxHeartbeats 4000000 in
set_option maxRecDepth 100000 in
theorem m_X2_note (l : Launch) (G : Gm) (hi : Inj G) (q1 : Nat) (hq1 : ko q1 = 10) (nq1 : len q1 = 256) (T : St) (post : St → Prop) (hw : wp_X2_note q1 T post) : Mv l yX2_note cX2_note 2 none 1 80 G [.ref (G.2.2 7), .ref (G.2.2 q1)] T post := by
  refine sy_head hi (by decide) (Nat.le_of_ble_eq_true rfl) (lv := [(0, .ref (G.2.2 7)), (1, .ref (G.2.2 q1))]) rfl ?_
  intro p e s m below meth c C hr hlocks hP hS ls hl
  have C : Cx p s m _ c cX2_note 2 RX2 G := C
  obtain ⟨hx, hb, hml, hown, hg, hK, hN, -⟩ := id C
  unfold wp_X2_note at hw
  refine lv_aload_n hx hb dX2_note_0 rfl (lv_at hl 1 rfl) ?_
  refine lv_iconst (v := 0) hx hb dX2_note_1 (by decide) ?_
  refine lv_aload_n hx hb dX2_note_2 rfl (lv_at hl 0 rfl) ?_
  refine gf_X2_13 C hP (o := 7) rfl dX2_note_3 ?_
  refine lv_aload_n hx hb dX2_note_6 rfl (lv_at hl 0 rfl) ?_
  refine gf_X2_16 C hP (o := 7) rfl dX2_note_7 ?_
  refine lv_aload_n hx hb dX2_note_10 rfl (lv_at hl 0 rfl) ?_
  refine gf_X2_20 C hP (o := 7) rfl dX2_note_11 ?_
  refine lv_iadd hx hb dX2_note_14 ?_
  refine lv_bipush (v := 9) hx hb dX2_note_15 (by decide) ?_
  refine lv_irem hx hb dX2_note_17 (by decide) ?_
  obtain ⟨hn1, hw⟩ := hw
  refine sy_aldG C hP (o := 8) rfl rfl hn1 dX2_note_18 ?_
  refine lv_iconst (v := 0) hx hb dX2_note_19 (by decide) ?_
  refine lv_sipush (v := 256) hx hb dX2_note_20 (by decide) ?_
  refine sy_copy C hP hS (fun _ h => h) hl.1 (o1 := q1) (o2 := (8 + 1 + (((T.1 7 1) + (T.1 7 2)) - ((T.1 7 1) + (T.1 7 2)) / 9 * 9).toNatClampNeg)) hq1 (ko_row (Or.inl ⟨rfl, rfl⟩) hn1).1 nq1 (ko_row (Or.inl ⟨rfl, rfl⟩) hn1).2 w_285 w_287 w_286 w_9 (Nat.le_of_ble_eq_true rfl) (Nat.le_of_ble_eq_true rfl) dX2_note_23 (fun H locs hP hS => ?_)
  obtain ⟨T2, eT2, hP⟩ := nameT (P := fun T => va_P G.1 sc_cl (wd G T) H) hP
  have hw := hw T2 eT2
  exact sy_vret C hr hlocks hP hS hw dX2_note_26
theorem mw_X2_keepNoted : MW yX2_keepNoted cX2_keepNoted 1 none 0 := ⟨w_303, w_4, by decide +kernel⟩
def wp_X2_keepNoted (T : St) (post : St → Prop) : Prop :=
  (8 ≤ T.1 7 2 → post (sv T 7 1 (((T.1 7 1) + 1) - ((T.1 7 1) + 1) / 9 * 9))) ∧ (¬ 8 ≤ T.1 7 2 → post (sv T 7 2 ((T.1 7 2) + 1)))
set_option maxHeartbeats 4000000 in
set_option maxRecDepth 100000 in
theorem m_X2_keepNoted (l : Launch) (G : Gm) (hi : Inj G)   (T : St) (post : St → Prop) (hw : wp_X2_keepNoted T post) : Mv l yX2_keepNoted cX2_keepNoted 1 none 0 0 G [.ref (G.2.2 7)] T post := by
  refine sy_head hi (by decide) (Nat.le_of_ble_eq_true rfl) (lv := [(0, .ref (G.2.2 7))]) rfl ?_
  intro p e s m below meth c C hr hlocks hP hS ls hl
  have C : Cx p s m _ c cX2_keepNoted 1 RX2 G := C
  obtain ⟨hx, hb, hml, hown, hg, hK, hN, -⟩ := id C
  unfold wp_X2_keepNoted at hw
  refine lv_aload_n hx hb dX2_keepNoted_0 rfl (lv_at hl 0 rfl) ?_
  refine gf_X2_20 C hP (o := 7) rfl dX2_keepNoted_1 ?_
  refine lv_bipush (v := 8) hx hb dX2_keepNoted_4 (by decide) ?_
  refine lv_icmp_ge (tgt := 22) hx hb dX2_keepNoted_6 (by decide) (fun hc1 => ?_) (fun hc1 => ?_)
  · have hw := hw.1 hc1
    refine lv_aload_n hx hb dX2_keepNoted_22 rfl (lv_at hl 0 rfl) ?_
    refine lv_aload_n hx hb dX2_keepNoted_23 rfl (lv_at hl 0 rfl) ?_
    refine gf_X2_16 C hP (o := 7) rfl dX2_keepNoted_24 ?_
    refine lv_iconst (v := 1) hx hb dX2_keepNoted_27 (by decide) ?_
    refine lv_iadd hx hb dX2_keepNoted_28 ?_
    refine lv_bipush (v := 9) hx hb dX2_keepNoted_29 (by decide) ?_
    refine lv_irem hx hb dX2_keepNoted_31 (by decide) ?_
    refine pf_X2_16 C hP hS (fun _ h => h) (o := 7) rfl dX2_keepNoted_32 (fun H locs hP hS => ?_)
    exact sy_vret C hr hlocks hP hS hw dX2_keepNoted_35
  · have hw := hw.2 hc1
    refine lv_aload_n hx hb dX2_keepNoted_9 rfl (lv_at hl 0 rfl) ?_
    refine lv_dup hx hb dX2_keepNoted_10 rfl ?_
    refine gf_X2_20 C hP (o := 7) rfl dX2_keepNoted_11 ?_
    refine lv_iconst (v := 1) hx hb dX2_keepNoted_14 (by decide) ?_
    refine lv_iadd hx hb dX2_keepNoted_15 ?_
    refine pf_X2_20 C hP hS (fun _ h => h) (o := 7) rfl dX2_keepNoted_16 (fun H locs hP hS => ?_)
    refine lv_goto (tgt := 35) hx hb dX2_keepNoted_19 (by decide) ?_
    exact sy_vret C hr hlocks hP hS hw dX2_keepNoted_35
theorem mw_X2_takeLatest : MW yX2_takeLatest cX2_takeLatest 1 (some (.array .int)) 0 := ⟨w_547, w_4, by decide +kernel⟩
def wp_X2_takeLatest (T : St) (post : Nat → St → Prop) : Prop :=
  (T.1 7 2 ≤ 0 → vp_in (((T.1 7 1) + (T.1 7 2)) - ((T.1 7 1) + (T.1 7 2)) / 9 * 9) 9 ∧ (post (8 + 1 + (((T.1 7 1) + (T.1 7 2)) - ((T.1 7 1) + (T.1 7 2)) / 9 * 9).toNatClampNeg) T)) ∧ (¬ T.1 7 2 ≤ 0 → vp_in ((((sv T 7 2 ((T.1 7 2) - 1)).1 7 1) + ((sv T 7 2 ((T.1 7 2) - 1)).1 7 2)) - (((sv T 7 2 ((T.1 7 2) - 1)).1 7 1) + ((sv T 7 2 ((T.1 7 2) - 1)).1 7 2)) / 9 * 9) 9 ∧ (post (8 + 1 + ((((sv T 7 2 ((T.1 7 2) - 1)).1 7 1) + ((sv T 7 2 ((T.1 7 2) - 1)).1 7 2)) - (((sv T 7 2 ((T.1 7 2) - 1)).1 7 1) + ((sv T 7 2 ((T.1 7 2) - 1)).1 7 2)) / 9 * 9).toNatClampNeg) (sv T 7 2 ((T.1 7 2) - 1))))
set_option maxHeartbeats 4000000 in
set_option maxRecDepth 100000 in
theorem m_X2_takeLatest (l : Launch) (G : Gm) (hi : Inj G)   (T : St) (post : Nat → St → Prop) (hw : wp_X2_takeLatest T post) : Mr l yX2_takeLatest cX2_takeLatest 1 (some (.array .int)) 0 0 G [.ref (G.2.2 7)] T post := by
  refine sy_head hi (by decide) (Nat.le_of_ble_eq_true rfl) (lv := [(0, .ref (G.2.2 7))]) rfl ?_
  intro p e s m below meth c C hr hlocks hP hS ls hl
  have C : Cx p s m _ c cX2_takeLatest 1 RX2 G := C
  obtain ⟨hx, hb, hml, hown, hg, hK, hN, -⟩ := id C
  unfold wp_X2_takeLatest at hw
  refine lv_aload_n hx hb dX2_takeLatest_0 rfl (lv_at hl 0 rfl) ?_
  refine gf_X2_20 C hP (o := 7) rfl dX2_takeLatest_1 ?_
  refine lv_if_le (tgt := 17) hx hb dX2_takeLatest_4 (by decide) (fun hc1 => ?_) (fun hc1 => ?_)
  · have hw := hw.1 hc1
    refine lv_aload_n hx hb dX2_takeLatest_17 rfl (lv_at hl 0 rfl) ?_
    refine gf_X2_13 C hP (o := 7) rfl dX2_takeLatest_18 ?_
    refine lv_aload_n hx hb dX2_takeLatest_21 rfl (lv_at hl 0 rfl) ?_
    refine gf_X2_16 C hP (o := 7) rfl dX2_takeLatest_22 ?_
    refine lv_aload_n hx hb dX2_takeLatest_25 rfl (lv_at hl 0 rfl) ?_
    refine gf_X2_20 C hP (o := 7) rfl dX2_takeLatest_26 ?_
    refine lv_iadd hx hb dX2_takeLatest_29 ?_
    refine lv_bipush (v := 9) hx hb dX2_takeLatest_30 (by decide) ?_
    refine lv_irem hx hb dX2_takeLatest_32 (by decide) ?_
    obtain ⟨hn2, hw⟩ := hw
    refine sy_aldG C hP (o := 8) rfl rfl hn2 dX2_takeLatest_33 ?_
    exact sy_aret C hr hlocks hP hS hw dX2_takeLatest_34
  · have hw := hw.2 hc1
    refine lv_aload_n hx hb dX2_takeLatest_7 rfl (lv_at hl 0 rfl) ?_
    refine lv_dup hx hb dX2_takeLatest_8 rfl ?_
    refine gf_X2_20 C hP (o := 7) rfl dX2_takeLatest_9 ?_
    refine lv_iconst (v := 1) hx hb dX2_takeLatest_12 (by decide) ?_
    refine lv_isub hx hb dX2_takeLatest_13 ?_
    refine pf_X2_20 C hP hS (fun _ h => h) (o := 7) rfl dX2_takeLatest_14 (fun H locs hP hS => ?_)
    refine lv_aload_n hx hb dX2_takeLatest_17 rfl (lv_at hl 0 rfl) ?_
    refine gf_X2_13 C hP (o := 7) rfl dX2_takeLatest_18 ?_
    refine lv_aload_n hx hb dX2_takeLatest_21 rfl (lv_at hl 0 rfl) ?_
    refine gf_X2_16 C hP (o := 7) rfl dX2_takeLatest_22 ?_
    refine lv_aload_n hx hb dX2_takeLatest_25 rfl (lv_at hl 0 rfl) ?_
    refine gf_X2_20 C hP (o := 7) rfl dX2_takeLatest_26 ?_
    refine lv_iadd hx hb dX2_takeLatest_29 ?_
    refine lv_bipush (v := 9) hx hb dX2_takeLatest_30 (by decide) ?_
    refine lv_irem hx hb dX2_takeLatest_32 (by decide) ?_
    obtain ⟨hn3, hw⟩ := hw
    refine sy_aldG C hP (o := 8) rfl rfl hn3 dX2_takeLatest_33 ?_
    exact sy_aret C hr hlocks hP hS hw dX2_takeLatest_34
theorem mw_X2_empty : MW yX2_empty cX2_empty 1 none 0 := ⟨w_575, w_4, by decide +kernel⟩
def wp_X2_empty (T : St) (post : St → Prop) : Prop :=
  post (sv (sv T 7 1 0) 7 2 0)
set_option maxHeartbeats 4000000 in
set_option maxRecDepth 100000 in
theorem m_X2_empty (l : Launch) (G : Gm) (hi : Inj G)   (T : St) (post : St → Prop) (hw : wp_X2_empty T post) : Mv l yX2_empty cX2_empty 1 none 0 0 G [.ref (G.2.2 7)] T post := by
  refine sy_head hi (by decide) (Nat.le_of_ble_eq_true rfl) (lv := [(0, .ref (G.2.2 7))]) rfl ?_
  intro p e s m below meth c C hr hlocks hP hS ls hl
  have C : Cx p s m _ c cX2_empty 1 RX2 G := C
  obtain ⟨hx, hb, hml, hown, hg, hK, hN, -⟩ := id C
  unfold wp_X2_empty at hw
  refine lv_aload_n hx hb dX2_empty_0 rfl (lv_at hl 0 rfl) ?_
  refine lv_iconst (v := 0) hx hb dX2_empty_1 (by decide) ?_
  refine pf_X2_16 C hP hS (fun _ h => h) (o := 7) rfl dX2_empty_2 (fun H locs hP hS => ?_)
  refine lv_aload_n hx hb dX2_empty_5 rfl (lv_at hl 0 rfl) ?_
  refine lv_iconst (v := 0) hx hb dX2_empty_6 (by decide) ?_
  refine pf_X2_20 C hP hS (fun _ h => h) (o := 7) rfl dX2_empty_7 (fun H locs hP hS => ?_)
  exact sy_vret C hr hlocks hP hS hw dX2_empty_10
theorem mw_X3_addHead : MW yX3_addHead cX3_addHead 3 (some .boolean) 1 := ⟨w_361, w_5, by decide +kernel⟩
def wp_X3_addHead (o : Nat) (a1 : Int32) (T : St) (post : Int32 → St → Prop) : Prop :=
  wp_X3_indexOf o (a1 &&& 255) T (fun r2 T1 => (r2 < 0 → (T1.1 o 3 < 24 → vp_in (T1.1 o 3) 24 ∧ (∀ T6 : St, T6 = sv (sv T1 (o + 1) ((T1.1 o 3).toNatClampNeg) (a1 &&& 255)) o 3 (((sv T1 (o + 1) ((T1.1 o 3).toNatClampNeg) (a1 &&& 255)).1 o 3) + 1) → (post 1 T6))) ∧ (¬ T1.1 o 3 < 24 → post 0 T1)) ∧ (¬ r2 < 0 → post 1 T1))
set_option maxHeartbeats 4000000 in
set_option maxRecDepth 100000 in
theorem m_X3_addHead (l : Launch) (G : Gm) (hi : Inj G) (o : Nat) (a1 : Int32) (ho : ko o = 3) (T : St) (post : Int32 → St → Prop) (hw : wp_X3_addHead o a1 T post) : Mi l yX3_addHead cX3_addHead 3 (some .boolean) 1 22 G [.ref (G.2.2 o), .int a1] T post := by
  refine sy_head hi (by decide) (Nat.le_of_ble_eq_true rfl) (lv := [(0, .ref (G.2.2 o)), (1, .int a1)]) rfl ?_
  intro p e s m below meth c C hr hlocks hP hS ls hl
  have C : Cx p s m _ c cX3_addHead 3 RX3 G := C
  obtain ⟨hx, hb, hml, hown, hg, hK, hN, -⟩ := id C
  unfold wp_X3_addHead at hw
  refine lv_iload_n hx hb dX3_addHead_0 rfl (lv_at hl 1 rfl) ?_
  refine lv_sipush (v := 255) hx hb dX3_addHead_1 (by decide) ?_
  refine lv_iand hx hb dX3_addHead_4 ?_
  refine lv_istore_n (lv' := [(2, .int (a1 &&& 255)), (0, .ref (G.2.2 o)), (1, .int a1)]) hx hb dX3_addHead_5 rfl hl (by decide) rfl (fun ls hl => ?_)
  refine lv_aload_n hx hb dX3_addHead_6 rfl (lv_at hl 1 rfl) ?_
  refine lv_iload_n hx hb dX3_addHead_7 rfl (lv_at hl 0 rfl) ?_
  refine sy_goi (sy_runV C hP ho rfl (m_X3_indexOf l G hi _ _ ho _ _ hw) mw_X3_indexOf w_363 w_364 w_362 (rest := []) rfl hl.1 rfl (Nat.le_of_ble_eq_true rfl) ⟨Nat.le_of_ble_eq_true rfl, Nat.le_of_ble_eq_true rfl⟩ dX3_addHead_8 ⟨Nat.zero_le _, Nat.zero_le _⟩) hS (fun _ h => h) (fun r2 T1 H locs hw hP hS => ?_)
  refine lv_if_lt (tgt := 16) hx hb dX3_addHead_11 (by decide) (fun hc3 => ?_) (fun hc3 => ?_)
  · have hw := hw.1 hc3
    refine lv_aload_n hx hb dX3_addHead_16 rfl (lv_at hl 1 rfl) ?_
    refine gf_X3_21 C hP (o := o) ho dX3_addHead_17 ?_
    refine lv_bipush (v := 24) hx hb dX3_addHead_20 (by decide) ?_
    refine lv_icmp_lt (tgt := 27) hx hb dX3_addHead_22 (by decide) (fun hc4 => ?_) (fun hc4 => ?_)
    · have hw := hw.1 hc4
      refine lv_aload_n hx hb dX3_addHead_27 rfl (lv_at hl 1 rfl) ?_
      refine gf_X3_9 C hP (o := o) ho dX3_addHead_28 ?_
      refine lv_aload_n hx hb dX3_addHead_31 rfl (lv_at hl 1 rfl) ?_
      refine gf_X3_21 C hP (o := o) ho dX3_addHead_32 ?_
      refine lv_iload_n hx hb dX3_addHead_35 rfl (lv_at hl 0 rfl) ?_
      obtain ⟨hn5, hw⟩ := hw
      refine sy_iast C hP hS (fun _ h => h) (o := (o + 1)) (ko_mem ho).1.1 (ko_mem ho).1.2 hn5 dX3_addHead_36 (fun H locs hP hS => ?_)
      refine lv_aload_n hx hb dX3_addHead_37 rfl (lv_at hl 1 rfl) ?_
      refine lv_dup hx hb dX3_addHead_38 rfl ?_
      refine gf_X3_21 C hP (o := o) ho dX3_addHead_39 ?_
      refine lv_iconst (v := 1) hx hb dX3_addHead_42 (by decide) ?_
      refine lv_iadd hx hb dX3_addHead_43 ?_
      refine pf_X3_21 C hP hS (fun _ h => h) (o := o) ho dX3_addHead_44 (fun H locs hP hS => ?_)
      obtain ⟨T6, eT6, hP⟩ := nameT (P := fun T => va_P G.1 sc_cl (wd G T) H) hP
      have hw := hw T6 eT6
      refine lv_iconst (v := 1) hx hb dX3_addHead_47 (by decide) ?_
      exact sy_zret C hr hlocks hP hS rfl hw dX3_addHead_48
    · have hw := hw.2 hc4
      refine lv_iconst (v := 0) hx hb dX3_addHead_25 (by decide) ?_
      exact sy_zret C hr hlocks hP hS rfl hw dX3_addHead_26
  · have hw := hw.2 hc3
    refine lv_iconst (v := 1) hx hb dX3_addHead_14 (by decide) ?_
    exact sy_zret C hr hlocks hP hS rfl hw dX3_addHead_15
theorem mw_X3_addHeadsBehind : MW yX3_addHeadsBehind cX3_addHeadsBehind 5 (some .boolean) 2 := ⟨w_369, w_5, by decide +kernel⟩
def wj_X3_addHeadsBehind_42 (o : Nat) (q1 : Nat) (a2 : Int32)  (j3_8 : Int32) (j4_9 : Int32) (T10 : St) (post : Int32 → St → Prop) : Prop :=
  wp_X6_canGoElsewhere j3_8 T10 (fun r12 T11 => (r12 = 0 → post 1 T11) ∧ (¬ r12 = 0 → vp_in ((a2 + 1) &&& 255) 256 ∧ (wp_X3_addHead o (j4_9 + ((T11.1 q1 ((a2 + 1) &&& 255).toNatClampNeg).toInt8.toInt32)) T11 (fun r16 T15 => (r16 = 0 → post 0 T15) ∧ (¬ r16 = 0 → post 1 T15)))))
def wp_X3_addHeadsBehind (o : Nat) (q1 : Nat) (a2 : Int32) (T : St) (post : Int32 → St → Prop) : Prop :=
  vp_in a2 256 ∧ (wp_X6_isKind (T.1 q1 a2.toNatClampNeg) T (fun r3 T2 => (¬ r3 = 0 → wp_X6_lengthOf (T.1 q1 a2.toNatClampNeg) T2 (fun r6 T5 => (T.1 q1 a2.toNatClampNeg = 0 → wj_X3_addHeadsBehind_42 o q1 a2 (T.1 q1 a2.toNatClampNeg) (a2 + r6) T5 post) ∧ (¬ T.1 q1 a2.toNatClampNeg = 0 → (T.1 q1 a2.toNatClampNeg = 6 → wj_X3_addHeadsBehind_42 o q1 a2 (T.1 q1 a2.toNatClampNeg) (a2 + r6) T5 post) ∧ (¬ T.1 q1 a2.toNatClampNeg = 6 → wp_X3_addHead o (a2 + r6) T5 (fun r21 T20 => (¬ r21 = 0 → wj_X3_addHeadsBehind_42 o q1 a2 (T.1 q1 a2.toNatClampNeg) (a2 + r6) T20 post) ∧ (r21 = 0 → post 0 T20)))))) ∧ (r3 = 0 → post 0 T2)))
set_option maxHeartbeats 4000000 in
set_option maxRecDepth 100000 in
theorem m_X3_addHeadsBehind (l : Launch) (G : Gm) (hi : Inj G) (o : Nat) (q1 : Nat) (a2 : Int32) (ho : ko o = 3) (hq1 : ko q1 = 10) (nq1 : len q1 = 256) (T : St) (post : Int32 → St → Prop) (hw : wp_X3_addHeadsBehind o q1 a2 T post) : Mi l yX3_addHeadsBehind cX3_addHeadsBehind 5 (some .boolean) 2 44 G [.ref (G.2.2 o), .ref (G.2.2 q1), .int a2] T post := by
  refine sy_head hi (by decide) (Nat.le_of_ble_eq_true rfl) (lv := [(0, .ref (G.2.2 o)), (1, .ref (G.2.2 q1)), (2, .int a2)]) rfl ?_
  intro p e s m below meth c C hr hlocks hP hS ls hl
  have C : Cx p s m _ c cX3_addHeadsBehind 5 RX3 G := C
  obtain ⟨hx, hb, hml, hown, hg, hK, hN, -⟩ := id C
  unfold wp_X3_addHeadsBehind at hw
  have J18 : ∀ (j3_8 : Int32) (j4_9 : Int32) (T10 : St), wj_X3_addHeadsBehind_42 o q1 a2  j3_8 j4_9 T10 post → ∀ (H : Heap) (locs : List Loc), va_P G.1 sc_cl (wd G T10) H → va_S (SA G) s.heap H locs → ∀ ls : Array Slot, lv_has ls 5 [(0, .ref (G.2.2 o)), (1, .ref (G.2.2 q1)), (2, .int a2), (3, .int j3_8), (4, .int j4_9)] → W p l e { frames := 2, cells := 0, slots := 0, locals := 44 } s m ([.ref (G.2.2 o), .ref (G.2.2 q1), .int a2] : List Value).toArray below meth c H locs 0 0 (MQ below (va_Qi post (Sy G) (SA G)) ([.ref (G.2.2 o), .ref (G.2.2 q1), .int a2] : List Value).toArray s 0 0 (SA G)) (F0 m 42 ls []) := by
    intro j3_8 j4_9 T10  hw H locs hP hS ls hl
    unfold wj_X3_addHeadsBehind_42 at hw
    refine lv_iload_n hx hb dX3_addHeadsBehind_42 rfl (lv_at hl 3 rfl) ?_
    refine sy_goi (sy_runSN C hP (m_X6_canGoElsewhere l G hi _ _ _ hw) mw_X6_canGoElsewhere w_375 (List.mem_of_getElem? (i := 3) rfl) (rest := []) rfl hl.1 rfl (Nat.le_of_ble_eq_true rfl) ⟨Nat.le_of_ble_eq_true rfl, Nat.le_of_ble_eq_true rfl⟩ dX3_addHeadsBehind_43 ⟨Nat.zero_le _, Nat.zero_le _⟩) hS (fun _ h => h) (fun r12 T11 H locs hw hP hS => ?_)
    refine lv_if_eq (tgt := 69) hx hb dX3_addHeadsBehind_46 (by decide) (fun hc13 => ?_) (fun hc13 => ?_)
    · have hw := hw.1 hc13
      refine lv_iconst (v := 1) hx hb dX3_addHeadsBehind_69 (by decide) ?_
      refine lv_goto (tgt := 74) hx hb dX3_addHeadsBehind_70 (by decide) ?_
      exact sy_zret C hr hlocks hP hS rfl hw dX3_addHeadsBehind_74
    · have hw := hw.2 hc13
      refine lv_aload_n hx hb dX3_addHeadsBehind_49 rfl (lv_at hl 0 rfl) ?_
      refine lv_iload hx hb dX3_addHeadsBehind_50 (lv_at hl 4 rfl) ?_
      refine lv_aload_n hx hb dX3_addHeadsBehind_52 rfl (lv_at hl 1 rfl) ?_
      refine lv_iload_n hx hb dX3_addHeadsBehind_53 rfl (lv_at hl 2 rfl) ?_
      refine lv_iconst (v := 1) hx hb dX3_addHeadsBehind_54 (by decide) ?_
      refine lv_iadd hx hb dX3_addHeadsBehind_55 ?_
      refine lv_sipush (v := 255) hx hb dX3_addHeadsBehind_56 (by decide) ?_
      refine lv_iand hx hb dX3_addHeadsBehind_59 ?_
      obtain ⟨hn14, hw⟩ := hw
      refine sy_iald C hP (o := q1) hq1 nq1 hn14 dX3_addHeadsBehind_60 ?_
      refine lv_i2b hx hb dX3_addHeadsBehind_61 rfl ?_
      refine lv_iadd hx hb dX3_addHeadsBehind_62 ?_
      refine sy_goi (sy_runV C hP ho rfl (m_X3_addHead l G hi _ _ ho _ _ hw) mw_X3_addHead w_360 ws_4 w_358 (rest := []) rfl hl.1 rfl (Nat.le_of_ble_eq_true rfl) ⟨Nat.le_of_ble_eq_true rfl, Nat.le_of_ble_eq_true rfl⟩ dX3_addHeadsBehind_63 ⟨Nat.zero_le _, Nat.zero_le _⟩) hS (fun _ h => h) (fun r16 T15 H locs hw hP hS => ?_)
      refine lv_if_eq (tgt := 73) hx hb dX3_addHeadsBehind_66 (by decide) (fun hc17 => ?_) (fun hc17 => ?_)
      · have hw := hw.1 hc17
        refine lv_iconst (v := 0) hx hb dX3_addHeadsBehind_73 (by decide) ?_
        exact sy_zret C hr hlocks hP hS rfl hw dX3_addHeadsBehind_74
      · have hw := hw.2 hc17
        refine lv_iconst (v := 1) hx hb dX3_addHeadsBehind_69 (by decide) ?_
        refine lv_goto (tgt := 74) hx hb dX3_addHeadsBehind_70 (by decide) ?_
        exact sy_zret C hr hlocks hP hS rfl hw dX3_addHeadsBehind_74
  refine lv_aload_n hx hb dX3_addHeadsBehind_0 rfl (lv_at hl 1 rfl) ?_
  refine lv_iload_n hx hb dX3_addHeadsBehind_1 rfl (lv_at hl 2 rfl) ?_
  obtain ⟨hn1, hw⟩ := hw
  refine sy_iald C hP (o := q1) hq1 nq1 hn1 dX3_addHeadsBehind_2 ?_
  refine lv_istore_n (lv' := [(3, .int (T.1 q1 a2.toNatClampNeg)), (0, .ref (G.2.2 o)), (1, .ref (G.2.2 q1)), (2, .int a2)]) hx hb dX3_addHeadsBehind_3 rfl hl (by decide) rfl (fun ls hl => ?_)
  refine lv_iload_n hx hb dX3_addHeadsBehind_4 rfl (lv_at hl 0 rfl) ?_
  refine sy_goi (sy_runSN C hP (m_X6_isKind l G hi _ _ _ hw) mw_X6_isKind w_371 (List.mem_of_getElem? (i := 1) rfl) (rest := []) rfl hl.1 rfl (Nat.le_of_ble_eq_true rfl) ⟨Nat.le_of_ble_eq_true rfl, Nat.le_of_ble_eq_true rfl⟩ dX3_addHeadsBehind_5 ⟨Nat.zero_le _, Nat.zero_le _⟩) hS (fun _ h => h) (fun r3 T2 H locs hw hP hS => ?_)
  refine lv_if_ne (tgt := 13) hx hb dX3_addHeadsBehind_8 (by decide) (fun hc4 => ?_) (fun hc4 => ?_)
  · have hw := hw.1 hc4
    refine lv_iload_n hx hb dX3_addHeadsBehind_13 rfl (lv_at hl 3 rfl) ?_
    refine lv_iload_n hx hb dX3_addHeadsBehind_14 rfl (lv_at hl 0 rfl) ?_
    refine sy_goi (sy_runSN C hP (m_X6_lengthOf l G hi _ _ _ hw) mw_X6_lengthOf w_317 (List.mem_of_getElem? (i := 2) rfl) (rest := [.int a2]) rfl hl.1 rfl (Nat.le_of_ble_eq_true rfl) ⟨Nat.le_of_ble_eq_true rfl, Nat.le_of_ble_eq_true rfl⟩ dX3_addHeadsBehind_15 ⟨Nat.zero_le _, Nat.zero_le _⟩) hS (fun _ h => h) (fun r6 T5 H locs hw hP hS => ?_)
    refine lv_iadd hx hb dX3_addHeadsBehind_18 ?_
    refine lv_istore (lv' := [(4, .int (a2 + r6)), (3, .int (T.1 q1 a2.toNatClampNeg)), (0, .ref (G.2.2 o)), (1, .ref (G.2.2 q1)), (2, .int a2)]) hx hb dX3_addHeadsBehind_19 hl (by decide) rfl (fun ls hl => ?_)
    refine lv_iload_n hx hb dX3_addHeadsBehind_21 rfl (lv_at hl 1 rfl) ?_
    refine lv_if_eq (tgt := 42) hx hb dX3_addHeadsBehind_22 (by decide) (fun hc7 => ?_) (fun hc7 => ?_)
    · have hw := hw.1 hc7
      exact J18 _ _ _  hw _ _ hP hS ls (lv_sub hl [2, 3, 4, 1, 0] rfl)
    · have hw := hw.2 hc7
      refine lv_iload_n hx hb dX3_addHeadsBehind_25 rfl (lv_at hl 1 rfl) ?_
      refine lv_bipush (v := 6) hx hb dX3_addHeadsBehind_26 (by decide) ?_
      refine lv_icmp_eq (tgt := 42) hx hb dX3_addHeadsBehind_28 (by decide) (fun hc19 => ?_) (fun hc19 => ?_)
      · have hw := hw.1 hc19
        exact J18 _ _ _  hw _ _ hP hS ls (lv_sub hl [2, 3, 4, 1, 0] rfl)
      · have hw := hw.2 hc19
        refine lv_aload_n hx hb dX3_addHeadsBehind_31 rfl (lv_at hl 2 rfl) ?_
        refine lv_iload hx hb dX3_addHeadsBehind_32 (lv_at hl 0 rfl) ?_
        refine sy_goi (sy_runV C hP ho rfl (m_X3_addHead l G hi _ _ ho _ _ hw) mw_X3_addHead w_360 ws_4 w_358 (rest := []) rfl hl.1 rfl (Nat.le_of_ble_eq_true rfl) ⟨Nat.le_of_ble_eq_true rfl, Nat.le_of_ble_eq_true rfl⟩ dX3_addHeadsBehind_34 ⟨Nat.zero_le _, Nat.zero_le _⟩) hS (fun _ h => h) (fun r21 T20 H locs hw hP hS => ?_)
        refine lv_if_ne (tgt := 42) hx hb dX3_addHeadsBehind_37 (by decide) (fun hc22 => ?_) (fun hc22 => ?_)
        · have hw := hw.1 hc22
          exact J18 _ _ _  hw _ _ hP hS ls (lv_sub hl [2, 3, 4, 1, 0] rfl)
        · have hw := hw.2 hc22
          refine lv_iconst (v := 0) hx hb dX3_addHeadsBehind_40 (by decide) ?_
          exact sy_zret C hr hlocks hP hS rfl hw dX3_addHeadsBehind_41
  · have hw := hw.2 hc4
    refine lv_iconst (v := 0) hx hb dX3_addHeadsBehind_11 (by decide) ?_
    exact sy_zret C hr hlocks hP hS rfl hw dX3_addHeadsBehind_12
theorem mw_X3_sortHeads : MW yX3_sortHeads cX3_sortHeads 4 none 0 := ⟨w_380, w_5, by decide +kernel⟩
def wb_X3_sortHeads_19 (o : Nat) (v1_1 : Int32) (T2 : St) (k3 : Int32 → St → Prop) (k14 : (Int32) → St → Prop) (v3_12 : Int32) (T13 : St) (post : St → Prop) : Prop :=
 (v3_12 ≤ 0 → vp_in v3_12 24 ∧ (k3 (v1_1 + 1) (sv T13 (o + 1) (v3_12.toNatClampNeg) (T2.1 (o + 1) v1_1.toNatClampNeg)))) ∧ (¬ v3_12 ≤ 0 → vp_in (v3_12 - 1) 24 ∧ ((T13.1 (o + 1) (v3_12 - 1).toNatClampNeg ≤ T2.1 (o + 1) v1_1.toNatClampNeg → vp_in v3_12 24 ∧ (k3 (v1_1 + 1) (sv T13 (o + 1) (v3_12.toNatClampNeg) (T2.1 (o + 1) v1_1.toNatClampNeg)))) ∧ (¬ T13.1 (o + 1) (v3_12 - 1).toNatClampNeg ≤ T2.1 (o + 1) v1_1.toNatClampNeg → vp_in (v3_12 - 1) 24 ∧ (vp_in v3_12 24 ∧ (k14 (v3_12 + (-1)) (sv T13 (o + 1) (v3_12.toNatClampNeg) (T13.1 (o + 1) (v3_12 - 1).toNatClampNeg)))))))
def wb_X3_sortHeads_2 (o : Nat) (k3 : (Int32) → St → Prop) (v1_1 : Int32) (T2 : St) (post : St → Prop) : Prop :=
 (T2.1 o 3 ≤ v1_1 → post T2) ∧ (¬ T2.1 o 3 ≤ v1_1 → vp_in v1_1 24 ∧ (LW (fun kl (vl : Int32) Tl => wb_X3_sortHeads_19 o v1_1 T2 k3 kl vl Tl post) v1_1 T2))
def wp_X3_sortHeads (o : Nat) (T : St) (post : St → Prop) : Prop :=
  LW (fun kl (vl : Int32) Tl => wb_X3_sortHeads_2 o kl vl Tl post) 1 T
set_option maxHeartbeats 4000000 in
set_option maxRecDepth 100000 in
theorem m_X3_sortHeads (l : Launch) (G : Gm) (hi : Inj G) (o : Nat) (ho : ko o = 3) (T : St) (post : St → Prop) (hw : wp_X3_sortHeads o T post) : Mv l yX3_sortHeads cX3_sortHeads 4 none 0 0 G [.ref (G.2.2 o)] T post := by
  refine sy_head hi (by decide) (Nat.le_of_ble_eq_true rfl) (lv := [(0, .ref (G.2.2 o))]) rfl ?_
  intro p e s m below meth c C hr hlocks hP hS ls hl
  have C : Cx p s m _ c cX3_sortHeads 4 RX3 G := C
  obtain ⟨hx, hb, hml, hown, hg, hK, hN, -⟩ := id C
  unfold wp_X3_sortHeads at hw
  refine lv_iconst (v := 1) hx hb dX3_sortHeads_0 (by decide) ?_
  refine lv_istore_n (lv' := [(1, .int 1), (0, .ref (G.2.2 o))]) hx hb dX3_sortHeads_1 rfl hl (by decide) rfl (fun ls hl => ?_)
  obtain ⟨I4, u5, hI, hst6⟩ := hw
  have L9 : ∀ (n : Nat) (v1_1 : Int32) (T2 : St), I4 v1_1 T2 → u5 v1_1 T2 < n → ∀ (H : Heap) (locs : List Loc), va_P G.1 sc_cl (wd G T2) H → va_S (SA G) s.heap H locs → ∀ ls : Array Slot, lv_has ls 4 [(1, .int v1_1), (0, .ref (G.2.2 o))] → W p l e { frames := 0, cells := 0, slots := 0, locals := 0 } s m ([.ref (G.2.2 o)] : List Value).toArray below meth c H locs 0 0 (MQ below (va_Qv post (Sy G) (SA G)) ([.ref (G.2.2 o)] : List Value).toArray s 0 0 (SA G)) (F0 m 2 ls []) := by
    intro n
    induction n with
    | zero => intro _ _ _ h; exact absurd h (Nat.not_lt_zero _)
    | succ n ih7 =>
      intro v1_1 T2 hI hlt8 H locs hP hS ls hl
      have hw := hst6 v1_1 T2 hI
      unfold wb_X3_sortHeads_2 at hw
      refine lv_iload_n hx hb dX3_sortHeads_2 rfl (lv_at hl 0 rfl) ?_
      refine lv_aload_n hx hb dX3_sortHeads_3 rfl (lv_at hl 1 rfl) ?_
      refine gf_X3_21 C hP (o := o) ho dX3_sortHeads_4 ?_
      refine lv_icmp_ge (tgt := 68) hx hb dX3_sortHeads_7 (by decide) (fun hc10 => ?_) (fun hc10 => ?_)
      · have hw := hw.1 hc10
        exact sy_vret C hr hlocks hP hS hw dX3_sortHeads_68
      · have hw := hw.2 hc10
        refine lv_aload_n hx hb dX3_sortHeads_10 rfl (lv_at hl 1 rfl) ?_
        refine gf_X3_9 C hP (o := o) ho dX3_sortHeads_11 ?_
        refine lv_iload_n hx hb dX3_sortHeads_14 rfl (lv_at hl 0 rfl) ?_
        obtain ⟨hn11, hw⟩ := hw
        refine sy_iald C hP (o := (o + 1)) (ko_mem ho).1.1 (ko_mem ho).1.2 hn11 dX3_sortHeads_15 ?_
        refine lv_istore_n (lv' := [(2, .int (T2.1 (o + 1) v1_1.toNatClampNeg)), (1, .int v1_1), (0, .ref (G.2.2 o))]) hx hb dX3_sortHeads_16 rfl hl (by decide) rfl (fun ls hl => ?_)
        refine lv_iload_n hx hb dX3_sortHeads_17 rfl (lv_at hl 1 rfl) ?_
        refine lv_istore_n (lv' := [(3, .int v1_1), (2, .int (T2.1 (o + 1) v1_1.toNatClampNeg)), (1, .int v1_1), (0, .ref (G.2.2 o))]) hx hb dX3_sortHeads_18 rfl hl (by decide) rfl (fun ls hl => ?_)
        obtain ⟨I15, u16, hI, hst17⟩ := hw
        have L20 : ∀ (n : Nat) (v3_12 : Int32) (T13 : St), I15 v3_12 T13 → u16 v3_12 T13 < n → ∀ (H : Heap) (locs : List Loc), va_P G.1 sc_cl (wd G T13) H → va_S (SA G) s.heap H locs → ∀ ls : Array Slot, lv_has ls 4 [(3, .int v3_12), (2, .int (T2.1 (o + 1) v1_1.toNatClampNeg)), (1, .int v1_1), (0, .ref (G.2.2 o))] → W p l e { frames := 0, cells := 0, slots := 0, locals := 0 } s m ([.ref (G.2.2 o)] : List Value).toArray below meth c H locs 0 0 (MQ below (va_Qv post (Sy G) (SA G)) ([.ref (G.2.2 o)] : List Value).toArray s 0 0 (SA G)) (F0 m 19 ls []) := by
          intro n
          induction n with
          | zero => intro _ _ _ h; exact absurd h (Nat.not_lt_zero _)
          | succ n ih18 =>
            intro v3_12 T13 hI hlt19 H locs hP hS ls hl
            have hw := hst17 v3_12 T13 hI
            unfold wb_X3_sortHeads_19 at hw
            refine lv_iload_n hx hb dX3_sortHeads_19 rfl (lv_at hl 0 rfl) ?_
            refine lv_if_le (tgt := 55) hx hb dX3_sortHeads_20 (by decide) (fun hc21 => ?_) (fun hc21 => ?_)
            · have hw := hw.1 hc21
              refine lv_aload_n hx hb dX3_sortHeads_55 rfl (lv_at hl 3 rfl) ?_
              refine gf_X3_9 C hP (o := o) ho dX3_sortHeads_56 ?_
              refine lv_iload_n hx hb dX3_sortHeads_59 rfl (lv_at hl 0 rfl) ?_
              refine lv_iload_n hx hb dX3_sortHeads_60 rfl (lv_at hl 1 rfl) ?_
              obtain ⟨hn22, hw⟩ := hw
              refine sy_iast C hP hS (fun _ h => h) (o := (o + 1)) (ko_mem ho).1.1 (ko_mem ho).1.2 hn22 dX3_sortHeads_61 (fun H locs hP hS => ?_)
              refine lv_iinc (v := v1_1 + 1) (lv' := [(1, .int (v1_1 + 1)), (3, .int v3_12), (2, .int (T2.1 (o + 1) v1_1.toNatClampNeg)), (0, .ref (G.2.2 o))]) hx hb dX3_sortHeads_62 hl (k := 2) rfl rfl (by decide) rfl (fun ls hl => ?_)
              refine lv_goto (tgt := 2) hx hb dX3_sortHeads_65 (by decide) ?_
              exact ih7 _ _ hw.1 (Nat.lt_of_lt_of_le hw.2 (Nat.le_of_lt_succ hlt8)) _ _ hP hS ls (lv_sub hl [0, 3] rfl)
            · have hw := hw.2 hc21
              refine lv_aload_n hx hb dX3_sortHeads_23 rfl (lv_at hl 3 rfl) ?_
              refine gf_X3_9 C hP (o := o) ho dX3_sortHeads_24 ?_
              refine lv_iload_n hx hb dX3_sortHeads_27 rfl (lv_at hl 0 rfl) ?_
              refine lv_iconst (v := 1) hx hb dX3_sortHeads_28 (by decide) ?_
              refine lv_isub hx hb dX3_sortHeads_29 ?_
              obtain ⟨hn23, hw⟩ := hw
              refine sy_iald C hP (o := (o + 1)) (ko_mem ho).1.1 (ko_mem ho).1.2 hn23 dX3_sortHeads_30 ?_
              refine lv_iload_n hx hb dX3_sortHeads_31 rfl (lv_at hl 1 rfl) ?_
              refine lv_icmp_le (tgt := 55) hx hb dX3_sortHeads_32 (by decide) (fun hc24 => ?_) (fun hc24 => ?_)
              · have hw := hw.1 hc24
                refine lv_aload_n hx hb dX3_sortHeads_55 rfl (lv_at hl 3 rfl) ?_
                refine gf_X3_9 C hP (o := o) ho dX3_sortHeads_56 ?_
                refine lv_iload_n hx hb dX3_sortHeads_59 rfl (lv_at hl 0 rfl) ?_
                refine lv_iload_n hx hb dX3_sortHeads_60 rfl (lv_at hl 1 rfl) ?_
                obtain ⟨hn25, hw⟩ := hw
                refine sy_iast C hP hS (fun _ h => h) (o := (o + 1)) (ko_mem ho).1.1 (ko_mem ho).1.2 hn25 dX3_sortHeads_61 (fun H locs hP hS => ?_)
                refine lv_iinc (v := v1_1 + 1) (lv' := [(1, .int (v1_1 + 1)), (3, .int v3_12), (2, .int (T2.1 (o + 1) v1_1.toNatClampNeg)), (0, .ref (G.2.2 o))]) hx hb dX3_sortHeads_62 hl (k := 2) rfl rfl (by decide) rfl (fun ls hl => ?_)
                refine lv_goto (tgt := 2) hx hb dX3_sortHeads_65 (by decide) ?_
                exact ih7 _ _ hw.1 (Nat.lt_of_lt_of_le hw.2 (Nat.le_of_lt_succ hlt8)) _ _ hP hS ls (lv_sub hl [0, 3] rfl)
              · have hw := hw.2 hc24
                refine lv_aload_n hx hb dX3_sortHeads_35 rfl (lv_at hl 3 rfl) ?_
                refine gf_X3_9 C hP (o := o) ho dX3_sortHeads_36 ?_
                refine lv_iload_n hx hb dX3_sortHeads_39 rfl (lv_at hl 0 rfl) ?_
                refine lv_aload_n hx hb dX3_sortHeads_40 rfl (lv_at hl 3 rfl) ?_
                refine gf_X3_9 C hP (o := o) ho dX3_sortHeads_41 ?_
                refine lv_iload_n hx hb dX3_sortHeads_44 rfl (lv_at hl 0 rfl) ?_
                refine lv_iconst (v := 1) hx hb dX3_sortHeads_45 (by decide) ?_
                refine lv_isub hx hb dX3_sortHeads_46 ?_
                obtain ⟨hn26, hw⟩ := hw
                refine sy_iald C hP (o := (o + 1)) (ko_mem ho).1.1 (ko_mem ho).1.2 hn26 dX3_sortHeads_47 ?_
                obtain ⟨hn27, hw⟩ := hw
                refine sy_iast C hP hS (fun _ h => h) (o := (o + 1)) (ko_mem ho).1.1 (ko_mem ho).1.2 hn27 dX3_sortHeads_48 (fun H locs hP hS => ?_)
                refine lv_iinc (v := v3_12 + (-1)) (lv' := [(3, .int (v3_12 + (-1))), (2, .int (T2.1 (o + 1) v1_1.toNatClampNeg)), (1, .int v1_1), (0, .ref (G.2.2 o))]) hx hb dX3_sortHeads_49 hl (k := 0) rfl rfl (by decide) rfl (fun ls hl => ?_)
                refine lv_goto (tgt := 19) hx hb dX3_sortHeads_52 (by decide) ?_
                exact ih18 _ _ hw.1 (Nat.lt_of_lt_of_le hw.2 (Nat.le_of_lt_succ hlt19)) _ _ hP hS ls (lv_sub hl [0, 1, 2, 3] rfl)
        exact L20 _ _ _ hI (Nat.lt_succ_self _) _ _ hP hS ls (lv_sub hl [0, 1, 2, 3] rfl)
  exact L9 _ _ _ hI (Nat.lt_succ_self _) _ _ hP hS ls (lv_sub hl [0, 1] rfl)
theorem mw_X3_decode : MW yX3_decode cX3_decode 3 none 1 := ⟨w_384, w_5, by decide +kernel⟩
def wb_X3_decode_2 (o : Nat) (q1 : Nat) (k3 : (Int32) → St → Prop) (v2_1 : Int32) (T2 : St) (post : St → Prop) : Prop :=
 (T2.1 o 3 ≤ v2_1 → post T2) ∧ (¬ T2.1 o 3 ≤ v2_1 → vp_in v2_1 24 ∧ (vp_in (T2.1 (o + 1) v2_1.toNatClampNeg) 256 ∧ (vp_in v2_1 24 ∧ (vp_in v2_1 24 ∧ (vp_in ((((sv T2 (o + 2) (v2_1.toNatClampNeg) (T2.1 q1 (T2.1 (o + 1) v2_1.toNatClampNeg).toNatClampNeg)).1 (o + 1) v2_1.toNatClampNeg) + 1) &&& 255) 256 ∧ (vp_in v2_1 24 ∧ (∀ T17 : St, T17 = sv (sv T2 (o + 2) (v2_1.toNatClampNeg) (T2.1 q1 (T2.1 (o + 1) v2_1.toNatClampNeg).toNatClampNeg)) (o + 3) (v2_1.toNatClampNeg) ((sv T2 (o + 2) (v2_1.toNatClampNeg) (T2.1 q1 (T2.1 (o + 1) v2_1.toNatClampNeg).toNatClampNeg)).1 q1 ((((sv T2 (o + 2) (v2_1.toNatClampNeg) (T2.1 q1 (T2.1 (o + 1) v2_1.toNatClampNeg).toNatClampNeg)).1 (o + 1) v2_1.toNatClampNeg) + 1) &&& 255).toNatClampNeg) → (k3 (v2_1 + 1) T17))))))))
def wp_X3_decode (o : Nat) (q1 : Nat) (T : St) (post : St → Prop) : Prop :=
  LW (fun kl (vl : Int32) Tl => wb_X3_decode_2 o q1 kl vl Tl post) 0 T
set_option maxHeartbeats 4000000 in
set_option maxRecDepth 100000 in
theorem m_X3_decode (l : Launch) (G : Gm) (hi : Inj G) (o : Nat) (q1 : Nat) (ho : ko o = 3) (hq1 : ko q1 = 10) (nq1 : len q1 = 256) (T : St) (post : St → Prop) (hw : wp_X3_decode o q1 T post) : Mv l yX3_decode cX3_decode 3 none 0 0 G [.ref (G.2.2 o), .ref (G.2.2 q1)] T post := by
  refine sy_head hi (by decide) (Nat.le_of_ble_eq_true rfl) (lv := [(0, .ref (G.2.2 o)), (1, .ref (G.2.2 q1))]) rfl ?_
  intro p e s m below meth c C hr hlocks hP hS ls hl
  have C : Cx p s m _ c cX3_decode 3 RX3 G := C
  obtain ⟨hx, hb, hml, hown, hg, hK, hN, -⟩ := id C
  unfold wp_X3_decode at hw
  refine lv_iconst (v := 0) hx hb dX3_decode_0 (by decide) ?_
  refine lv_istore_n (lv' := [(2, .int 0), (0, .ref (G.2.2 o)), (1, .ref (G.2.2 q1))]) hx hb dX3_decode_1 rfl hl (by decide) rfl (fun ls hl => ?_)
  obtain ⟨I4, u5, hI, hst6⟩ := hw
  have L9 : ∀ (n : Nat) (v2_1 : Int32) (T2 : St), I4 v2_1 T2 → u5 v2_1 T2 < n → ∀ (H : Heap) (locs : List Loc), va_P G.1 sc_cl (wd G T2) H → va_S (SA G) s.heap H locs → ∀ ls : Array Slot, lv_has ls 3 [(2, .int v2_1), (0, .ref (G.2.2 o)), (1, .ref (G.2.2 q1))] → W p l e { frames := 0, cells := 0, slots := 0, locals := 0 } s m ([.ref (G.2.2 o), .ref (G.2.2 q1)] : List Value).toArray below meth c H locs 0 0 (MQ below (va_Qv post (Sy G) (SA G)) ([.ref (G.2.2 o), .ref (G.2.2 q1)] : List Value).toArray s 0 0 (SA G)) (F0 m 2 ls []) := by
    intro n
    induction n with
    | zero => intro _ _ _ h; exact absurd h (Nat.not_lt_zero _)
    | succ n ih7 =>
      intro v2_1 T2 hI hlt8 H locs hP hS ls hl
      have hw := hst6 v2_1 T2 hI
      unfold wb_X3_decode_2 at hw
      refine lv_iload_n hx hb dX3_decode_2 rfl (lv_at hl 0 rfl) ?_
      refine lv_aload_n hx hb dX3_decode_3 rfl (lv_at hl 1 rfl) ?_
      refine gf_X3_21 C hP (o := o) ho dX3_decode_4 ?_
      refine lv_icmp_ge (tgt := 50) hx hb dX3_decode_7 (by decide) (fun hc10 => ?_) (fun hc10 => ?_)
      · have hw := hw.1 hc10
        exact sy_vret C hr hlocks hP hS hw dX3_decode_50
      · have hw := hw.2 hc10
        refine lv_aload_n hx hb dX3_decode_10 rfl (lv_at hl 1 rfl) ?_
        refine gf_X3_15 C hP (o := o) ho dX3_decode_11 ?_
        refine lv_iload_n hx hb dX3_decode_14 rfl (lv_at hl 0 rfl) ?_
        refine lv_aload_n hx hb dX3_decode_15 rfl (lv_at hl 2 rfl) ?_
        refine lv_aload_n hx hb dX3_decode_16 rfl (lv_at hl 1 rfl) ?_
        refine gf_X3_9 C hP (o := o) ho dX3_decode_17 ?_
        refine lv_iload_n hx hb dX3_decode_20 rfl (lv_at hl 0 rfl) ?_
        obtain ⟨hn11, hw⟩ := hw
        refine sy_iald C hP (o := (o + 1)) (ko_mem ho).1.1 (ko_mem ho).1.2 hn11 dX3_decode_21 ?_
        obtain ⟨hn12, hw⟩ := hw
        refine sy_iald C hP (o := q1) hq1 nq1 hn12 dX3_decode_22 ?_
        obtain ⟨hn13, hw⟩ := hw
        refine sy_iast C hP hS (fun _ h => h) (o := (o + 2)) (ko_mem ho).2.1.1 (ko_mem ho).2.1.2 hn13 dX3_decode_23 (fun H locs hP hS => ?_)
        refine lv_aload_n hx hb dX3_decode_24 rfl (lv_at hl 1 rfl) ?_
        refine gf_X3_18 C hP (o := o) ho dX3_decode_25 ?_
        refine lv_iload_n hx hb dX3_decode_28 rfl (lv_at hl 0 rfl) ?_
        refine lv_aload_n hx hb dX3_decode_29 rfl (lv_at hl 2 rfl) ?_
        refine lv_aload_n hx hb dX3_decode_30 rfl (lv_at hl 1 rfl) ?_
        refine gf_X3_9 C hP (o := o) ho dX3_decode_31 ?_
        refine lv_iload_n hx hb dX3_decode_34 rfl (lv_at hl 0 rfl) ?_
        obtain ⟨hn14, hw⟩ := hw
        refine sy_iald C hP (o := (o + 1)) (ko_mem ho).1.1 (ko_mem ho).1.2 hn14 dX3_decode_35 ?_
        refine lv_iconst (v := 1) hx hb dX3_decode_36 (by decide) ?_
        refine lv_iadd hx hb dX3_decode_37 ?_
        refine lv_sipush (v := 255) hx hb dX3_decode_38 (by decide) ?_
        refine lv_iand hx hb dX3_decode_41 ?_
        obtain ⟨hn15, hw⟩ := hw
        refine sy_iald C hP (o := q1) hq1 nq1 hn15 dX3_decode_42 ?_
        obtain ⟨hn16, hw⟩ := hw
        refine sy_iast C hP hS (fun _ h => h) (o := (o + 3)) (ko_mem ho).2.2.1 (ko_mem ho).2.2.2 hn16 dX3_decode_43 (fun H locs hP hS => ?_)
        obtain ⟨T17, eT17, hP⟩ := nameT (P := fun T => va_P G.1 sc_cl (wd G T) H) hP
        have hw := hw T17 eT17
        refine lv_iinc (v := v2_1 + 1) (lv' := [(2, .int (v2_1 + 1)), (0, .ref (G.2.2 o)), (1, .ref (G.2.2 q1))]) hx hb dX3_decode_44 hl (k := 0) rfl rfl (by decide) rfl (fun ls hl => ?_)
        refine lv_goto (tgt := 2) hx hb dX3_decode_47 (by decide) ?_
        exact ih7 _ _ hw.1 (Nat.lt_of_lt_of_le hw.2 (Nat.le_of_lt_succ hlt8)) _ _ hP hS ls (lv_sub hl [0, 1, 2] rfl)
  exact L9 _ _ _ hI (Nat.lt_succ_self _) _ _ hP hS ls (lv_sub hl [0, 1, 2] rfl)
theorem mw_X3_hasActsThatMeet : MW yX3_hasActsThatMeet cX3_hasActsThatMeet 2 (some .boolean) 0 := ⟨w_388, w_5, by decide +kernel⟩
def wb_X3_hasActsThatMeet_2 (o : Nat) (k3 : (Int32) → St → Prop) (v1_1 : Int32) (T2 : St) (post : Int32 → St → Prop) : Prop :=
 (T2.1 o 3 ≤ v1_1 → post 0 T2) ∧ (¬ T2.1 o 3 ≤ v1_1 → vp_in v1_1 24 ∧ (wp_X6_hasOperand (T2.1 (o + 2) v1_1.toNatClampNeg) T2 (fun r13 T12 => (r13 = 0 → k3 (v1_1 + 1) T12) ∧ (¬ r13 = 0 → vp_in v1_1 24 ∧ (wp_X3_indexOf o (((T12.1 (o + 1) v1_1.toNatClampNeg) + 1) &&& 255) T12 (fun r17 T16 => (r17 < 0 → k3 (v1_1 + 1) T16) ∧ (¬ r17 < 0 → post 1 T16)))))))
def wp_X3_hasActsThatMeet (o : Nat) (T : St) (post : Int32 → St → Prop) : Prop :=
  LW (fun kl (vl : Int32) Tl => wb_X3_hasActsThatMeet_2 o kl vl Tl post) 0 T
set_option maxHeartbeats 4000000 in
set_option maxRecDepth 100000 in
theorem m_X3_hasActsThatMeet (l : Launch) (G : Gm) (hi : Inj G) (o : Nat) (ho : ko o = 3) (T : St) (post : Int32 → St → Prop) (hw : wp_X3_hasActsThatMeet o T post) : Mi l yX3_hasActsThatMeet cX3_hasActsThatMeet 2 (some .boolean) 1 22 G [.ref (G.2.2 o)] T post := by
  refine sy_head hi (by decide) (Nat.le_of_ble_eq_true rfl) (lv := [(0, .ref (G.2.2 o))]) rfl ?_
  intro p e s m below meth c C hr hlocks hP hS ls hl
  have C : Cx p s m _ c cX3_hasActsThatMeet 2 RX3 G := C
  obtain ⟨hx, hb, hml, hown, hg, hK, hN, -⟩ := id C
  unfold wp_X3_hasActsThatMeet at hw
  refine lv_iconst (v := 0) hx hb dX3_hasActsThatMeet_0 (by decide) ?_
  refine lv_istore_n (lv' := [(1, .int 0), (0, .ref (G.2.2 o))]) hx hb dX3_hasActsThatMeet_1 rfl hl (by decide) rfl (fun ls hl => ?_)
  obtain ⟨I4, u5, hI, hst6⟩ := hw
  have L9 : ∀ (n : Nat) (v1_1 : Int32) (T2 : St), I4 v1_1 T2 → u5 v1_1 T2 < n → ∀ (H : Heap) (locs : List Loc), va_P G.1 sc_cl (wd G T2) H → va_S (SA G) s.heap H locs → ∀ ls : Array Slot, lv_has ls 2 [(1, .int v1_1), (0, .ref (G.2.2 o))] → W p l e { frames := 1, cells := 0, slots := 0, locals := 22 } s m ([.ref (G.2.2 o)] : List Value).toArray below meth c H locs 0 0 (MQ below (va_Qi post (Sy G) (SA G)) ([.ref (G.2.2 o)] : List Value).toArray s 0 0 (SA G)) (F0 m 2 ls []) := by
    intro n
    induction n with
    | zero => intro _ _ _ h; exact absurd h (Nat.not_lt_zero _)
    | succ n ih7 =>
      intro v1_1 T2 hI hlt8 H locs hP hS ls hl
      have hw := hst6 v1_1 T2 hI
      unfold wb_X3_hasActsThatMeet_2 at hw
      refine lv_iload_n hx hb dX3_hasActsThatMeet_2 rfl (lv_at hl 0 rfl) ?_
      refine lv_aload_n hx hb dX3_hasActsThatMeet_3 rfl (lv_at hl 1 rfl) ?_
      refine gf_X3_21 C hP (o := o) ho dX3_hasActsThatMeet_4 ?_
      refine lv_icmp_ge (tgt := 49) hx hb dX3_hasActsThatMeet_7 (by decide) (fun hc10 => ?_) (fun hc10 => ?_)
      · have hw := hw.1 hc10
        refine lv_iconst (v := 0) hx hb dX3_hasActsThatMeet_49 (by decide) ?_
        exact sy_zret C hr hlocks hP hS rfl hw dX3_hasActsThatMeet_50
      · have hw := hw.2 hc10
        refine lv_aload_n hx hb dX3_hasActsThatMeet_10 rfl (lv_at hl 1 rfl) ?_
        refine gf_X3_15 C hP (o := o) ho dX3_hasActsThatMeet_11 ?_
        refine lv_iload_n hx hb dX3_hasActsThatMeet_14 rfl (lv_at hl 0 rfl) ?_
        obtain ⟨hn11, hw⟩ := hw
        refine sy_iald C hP (o := (o + 2)) (ko_mem ho).2.1.1 (ko_mem ho).2.1.2 hn11 dX3_hasActsThatMeet_15 ?_
        refine sy_goi (sy_runSN C hP (m_X6_hasOperand l G hi _ _ _ hw) mw_X6_hasOperand w_320 (List.mem_of_getElem? (i := 4) rfl) (rest := []) rfl hl.1 rfl (Nat.le_of_ble_eq_true rfl) ⟨Nat.le_of_ble_eq_true rfl, Nat.le_of_ble_eq_true rfl⟩ dX3_hasActsThatMeet_16 ⟨Nat.zero_le _, Nat.zero_le _⟩) hS (fun _ h => h) (fun r13 T12 H locs hw hP hS => ?_)
        refine lv_if_eq (tgt := 43) hx hb dX3_hasActsThatMeet_19 (by decide) (fun hc14 => ?_) (fun hc14 => ?_)
        · have hw := hw.1 hc14
          refine lv_iinc (v := v1_1 + 1) (lv' := [(1, .int (v1_1 + 1)), (0, .ref (G.2.2 o))]) hx hb dX3_hasActsThatMeet_43 hl (k := 0) rfl rfl (by decide) rfl (fun ls hl => ?_)
          refine lv_goto (tgt := 2) hx hb dX3_hasActsThatMeet_46 (by decide) ?_
          exact ih7 _ _ hw.1 (Nat.lt_of_lt_of_le hw.2 (Nat.le_of_lt_succ hlt8)) _ _ hP hS ls (lv_sub hl [0, 1] rfl)
        · have hw := hw.2 hc14
          refine lv_aload_n hx hb dX3_hasActsThatMeet_22 rfl (lv_at hl 1 rfl) ?_
          refine lv_aload_n hx hb dX3_hasActsThatMeet_23 rfl (lv_at hl 1 rfl) ?_
          refine gf_X3_9 C hP (o := o) ho dX3_hasActsThatMeet_24 ?_
          refine lv_iload_n hx hb dX3_hasActsThatMeet_27 rfl (lv_at hl 0 rfl) ?_
          obtain ⟨hn15, hw⟩ := hw
          refine sy_iald C hP (o := (o + 1)) (ko_mem ho).1.1 (ko_mem ho).1.2 hn15 dX3_hasActsThatMeet_28 ?_
          refine lv_iconst (v := 1) hx hb dX3_hasActsThatMeet_29 (by decide) ?_
          refine lv_iadd hx hb dX3_hasActsThatMeet_30 ?_
          refine lv_sipush (v := 255) hx hb dX3_hasActsThatMeet_31 (by decide) ?_
          refine lv_iand hx hb dX3_hasActsThatMeet_34 ?_
          refine sy_goi (sy_runV C hP ho rfl (m_X3_indexOf l G hi _ _ ho _ _ hw) mw_X3_indexOf w_363 w_364 w_362 (rest := []) rfl hl.1 rfl (Nat.le_of_ble_eq_true rfl) ⟨Nat.le_of_ble_eq_true rfl, Nat.le_of_ble_eq_true rfl⟩ dX3_hasActsThatMeet_35 ⟨Nat.zero_le _, Nat.zero_le _⟩) hS (fun _ h => h) (fun r17 T16 H locs hw hP hS => ?_)
          refine lv_if_lt (tgt := 43) hx hb dX3_hasActsThatMeet_38 (by decide) (fun hc18 => ?_) (fun hc18 => ?_)
          · have hw := hw.1 hc18
            refine lv_iinc (v := v1_1 + 1) (lv' := [(1, .int (v1_1 + 1)), (0, .ref (G.2.2 o))]) hx hb dX3_hasActsThatMeet_43 hl (k := 0) rfl rfl (by decide) rfl (fun ls hl => ?_)
            refine lv_goto (tgt := 2) hx hb dX3_hasActsThatMeet_46 (by decide) ?_
            exact ih7 _ _ hw.1 (Nat.lt_of_lt_of_le hw.2 (Nat.le_of_lt_succ hlt8)) _ _ hP hS ls (lv_sub hl [0, 1] rfl)
          · have hw := hw.2 hc18
            refine lv_iconst (v := 1) hx hb dX3_hasActsThatMeet_41 (by decide) ?_
            exact sy_zret C hr hlocks hP hS rfl hw dX3_hasActsThatMeet_42
  exact L9 _ _ _ hI (Nat.lt_succ_self _) _ _ hP hS ls (lv_sub hl [0, 1] rfl)
theorem mw_X3_fill : MW yX3_fill cX3_fill 5 (some .boolean) 2 := ⟨w_357, w_5, by decide +kernel⟩
def wj_X3_fill_53 (o : Nat) (q1 : Nat)  (j3_14 : Int32) (T15 : St) (post : Int32 → St → Prop) : Prop :=
  (¬ j3_14 = 0 → wp_X3_sortHeads o T15 (fun T17 => wp_X3_decode o q1 T17 (fun T19 => wp_X3_hasActsThatMeet o T19 (fun r22 T21 => (¬ r22 = 0 → post 0 T21) ∧ (r22 = 0 → post 1 T21))))) ∧ (j3_14 = 0 → post 0 T15)
def wb_X3_fill_14 (o : Nat) (q1 : Nat) (k6 : (Int32 × Int32) → St → Prop) (v3_3 : Int32) (v4_4 : Int32) (T5 : St) (post : Int32 → St → Prop) : Prop :=
 (24 ≤ v4_4 → wj_X3_fill_53 o q1 v3_3 T5 post) ∧ (¬ 24 ≤ v4_4 → (T5.1 o 3 ≤ v4_4 → wj_X3_fill_53 o q1 v3_3 T5 post) ∧ (¬ T5.1 o 3 ≤ v4_4 → (v3_3 = 0 → wj_X3_fill_53 o q1 v3_3 T5 post) ∧ (¬ v3_3 = 0 → vp_in v4_4 24 ∧ (wp_X3_addHeadsBehind o q1 (T5.1 (o + 1) v4_4.toNatClampNeg) T5 (fun r29 T28 => k6 (r29, v4_4 + 1) T28)))))
def wp_X3_fill (o : Nat) (q1 : Nat) (a2 : Int32) (T : St) (post : Int32 → St → Prop) : Prop :=
  wp_X3_addHead o a2 (sv T o 3 0) (fun r2 T1 => LW (fun kl (vl : Int32 × Int32) Tl => wb_X3_fill_14 o q1 kl vl.1 vl.2 Tl post) (r2, 0) T1)
set_option maxHeartbeats 4000000 in
set_option maxRecDepth 100000 in
theorem m_X3_fill (l : Launch) (G : Gm) (hi : Inj G) (o : Nat) (q1 : Nat) (a2 : Int32) (ho : ko o = 3) (hq1 : ko q1 = 10) (nq1 : len q1 = 256) (T : St) (post : Int32 → St → Prop) (hw : wp_X3_fill o q1 a2 T post) : Mi l yX3_fill cX3_fill 5 (some .boolean) 3 68 G [.ref (G.2.2 o), .ref (G.2.2 q1), .int a2] T post := by
  refine sy_head hi (by decide) (Nat.le_of_ble_eq_true rfl) (lv := [(0, .ref (G.2.2 o)), (1, .ref (G.2.2 q1)), (2, .int a2)]) rfl ?_
  intro p e s m below meth c C hr hlocks hP hS ls hl
  have C : Cx p s m _ c cX3_fill 5 RX3 G := C
  obtain ⟨hx, hb, hml, hown, hg, hK, hN, -⟩ := id C
  unfold wp_X3_fill at hw
  have J24 : ∀ (j3_14 : Int32) (T15 : St), wj_X3_fill_53 o q1  j3_14 T15 post → ∀ (H : Heap) (locs : List Loc), va_P G.1 sc_cl (wd G T15) H → va_S (SA G) s.heap H locs → ∀ ls : Array Slot, lv_has ls 5 [(0, .ref (G.2.2 o)), (1, .ref (G.2.2 q1)), (3, .int j3_14)] → W p l e { frames := 3, cells := 0, slots := 0, locals := 68 } s m ([.ref (G.2.2 o), .ref (G.2.2 q1), .int a2] : List Value).toArray below meth c H locs 0 0 (MQ below (va_Qi post (Sy G) (SA G)) ([.ref (G.2.2 o), .ref (G.2.2 q1), .int a2] : List Value).toArray s 0 0 (SA G)) (F0 m 53 ls []) := by
    intro j3_14 T15  hw H locs hP hS ls hl
    unfold wj_X3_fill_53 at hw
    refine lv_iload_n hx hb dX3_fill_53 rfl (lv_at hl 2 rfl) ?_
    refine lv_if_ne (tgt := 59) hx hb dX3_fill_54 (by decide) (fun hc16 => ?_) (fun hc16 => ?_)
    · have hw := hw.1 hc16
      refine lv_aload_n hx hb dX3_fill_59 rfl (lv_at hl 0 rfl) ?_
      refine sy_gov (sy_runV C hP ho rfl (m_X3_sortHeads l G hi _ ho _ _ hw) mw_X3_sortHeads w_379 ws_6 w_377 (rest := []) rfl hl.1 rfl (Nat.le_of_ble_eq_true rfl) ⟨Nat.le_of_ble_eq_true rfl, Nat.le_of_ble_eq_true rfl⟩ dX3_fill_60 ⟨Nat.zero_le _, Nat.zero_le _⟩) hS (fun _ h => h) (fun T17 H locs hw hP hS => ?_)
      refine lv_aload_n hx hb dX3_fill_63 rfl (lv_at hl 0 rfl) ?_
      refine lv_aload_n hx hb dX3_fill_64 rfl (lv_at hl 1 rfl) ?_
      refine sy_gov (sy_runV C hP ho rfl (m_X3_decode l G hi _ _ ho hq1 nq1 _ _ hw) mw_X3_decode w_383 ws_7 w_381 (rest := []) rfl hl.1 rfl (Nat.le_of_ble_eq_true rfl) ⟨Nat.le_of_ble_eq_true rfl, Nat.le_of_ble_eq_true rfl⟩ dX3_fill_65 ⟨Nat.zero_le _, Nat.zero_le _⟩) hS (fun _ h => h) (fun T19 H locs hw hP hS => ?_)
      refine lv_aload_n hx hb dX3_fill_68 rfl (lv_at hl 0 rfl) ?_
      refine sy_goi (sy_runV C hP ho rfl (m_X3_hasActsThatMeet l G hi _ ho _ _ hw) mw_X3_hasActsThatMeet w_387 ws_8 w_385 (rest := []) rfl hl.1 rfl (Nat.le_of_ble_eq_true rfl) ⟨Nat.le_of_ble_eq_true rfl, Nat.le_of_ble_eq_true rfl⟩ dX3_fill_69 ⟨Nat.zero_le _, Nat.zero_le _⟩) hS (fun _ h => h) (fun r22 T21 H locs hw hP hS => ?_)
      refine lv_if_ne (tgt := 79) hx hb dX3_fill_72 (by decide) (fun hc23 => ?_) (fun hc23 => ?_)
      · have hw := hw.1 hc23
        refine lv_iconst (v := 0) hx hb dX3_fill_79 (by decide) ?_
        exact sy_zret C hr hlocks hP hS rfl hw dX3_fill_80
      · have hw := hw.2 hc23
        refine lv_iconst (v := 1) hx hb dX3_fill_75 (by decide) ?_
        refine lv_goto (tgt := 80) hx hb dX3_fill_76 (by decide) ?_
        exact sy_zret C hr hlocks hP hS rfl hw dX3_fill_80
    · have hw := hw.2 hc16
      refine lv_iconst (v := 0) hx hb dX3_fill_57 (by decide) ?_
      exact sy_zret C hr hlocks hP hS rfl hw dX3_fill_58
  refine lv_aload_n hx hb dX3_fill_0 rfl (lv_at hl 0 rfl) ?_
  refine lv_iconst (v := 0) hx hb dX3_fill_1 (by decide) ?_
  refine pf_X3_21 C hP hS (fun _ h => h) (o := o) ho dX3_fill_2 (fun H locs hP hS => ?_)
  refine lv_aload_n hx hb dX3_fill_5 rfl (lv_at hl 0 rfl) ?_
  refine lv_iload_n hx hb dX3_fill_6 rfl (lv_at hl 2 rfl) ?_
  refine sy_goi (sy_runV C hP ho rfl (m_X3_addHead l G hi _ _ ho _ _ hw) mw_X3_addHead w_360 ws_4 w_358 (rest := []) rfl hl.1 rfl (Nat.le_of_ble_eq_true rfl) ⟨Nat.le_of_ble_eq_true rfl, Nat.le_of_ble_eq_true rfl⟩ dX3_fill_7 ⟨Nat.zero_le _, Nat.zero_le _⟩) hS (fun _ h => h) (fun r2 T1 H locs hw hP hS => ?_)
  refine lv_istore_n (lv' := [(3, .int r2), (0, .ref (G.2.2 o)), (1, .ref (G.2.2 q1)), (2, .int a2)]) hx hb dX3_fill_10 rfl hl (by decide) rfl (fun ls hl => ?_)
  refine lv_iconst (v := 0) hx hb dX3_fill_11 (by decide) ?_
  refine lv_istore (lv' := [(4, .int 0), (3, .int r2), (0, .ref (G.2.2 o)), (1, .ref (G.2.2 q1)), (2, .int a2)]) hx hb dX3_fill_12 hl (by decide) rfl (fun ls hl => ?_)
  obtain ⟨I7, u8, hI, hst9⟩ := hw
  have L12 : ∀ (n : Nat) (v3_3 : Int32) (v4_4 : Int32) (T5 : St), I7 (v3_3, v4_4) T5 → u8 (v3_3, v4_4) T5 < n → ∀ (H : Heap) (locs : List Loc), va_P G.1 sc_cl (wd G T5) H → va_S (SA G) s.heap H locs → ∀ ls : Array Slot, lv_has ls 5 [(4, .int v4_4), (3, .int v3_3), (0, .ref (G.2.2 o)), (1, .ref (G.2.2 q1))] → W p l e { frames := 3, cells := 0, slots := 0, locals := 68 } s m ([.ref (G.2.2 o), .ref (G.2.2 q1), .int a2] : List Value).toArray below meth c H locs 0 0 (MQ below (va_Qi post (Sy G) (SA G)) ([.ref (G.2.2 o), .ref (G.2.2 q1), .int a2] : List Value).toArray s 0 0 (SA G)) (F0 m 14 ls []) := by
    intro n
    induction n with
    | zero => intro _ _ _ _ h; exact absurd h (Nat.not_lt_zero _)
    | succ n ih10 =>
      intro v3_3 v4_4 T5 hI hlt11 H locs hP hS ls hl
      have hw := hst9 (v3_3, v4_4) T5 hI
      unfold wb_X3_fill_14 at hw
      refine lv_iload hx hb dX3_fill_14 (lv_at hl 0 rfl) ?_
      refine lv_bipush (v := 24) hx hb dX3_fill_16 (by decide) ?_
      refine lv_icmp_ge (tgt := 53) hx hb dX3_fill_18 (by decide) (fun hc13 => ?_) (fun hc13 => ?_)
      · have hw := hw.1 hc13
        exact J24 _ _  hw _ _ hP hS ls (lv_sub hl [2, 3, 1] rfl)
      · have hw := hw.2 hc13
        refine lv_iload hx hb dX3_fill_21 (lv_at hl 0 rfl) ?_
        refine lv_aload_n hx hb dX3_fill_23 rfl (lv_at hl 2 rfl) ?_
        refine gf_X3_21 C hP (o := o) ho dX3_fill_24 ?_
        refine lv_icmp_ge (tgt := 53) hx hb dX3_fill_27 (by decide) (fun hc25 => ?_) (fun hc25 => ?_)
        · have hw := hw.1 hc25
          exact J24 _ _  hw _ _ hP hS ls (lv_sub hl [2, 3, 1] rfl)
        · have hw := hw.2 hc25
          refine lv_iload_n hx hb dX3_fill_30 rfl (lv_at hl 1 rfl) ?_
          refine lv_if_eq (tgt := 53) hx hb dX3_fill_31 (by decide) (fun hc26 => ?_) (fun hc26 => ?_)
          · have hw := hw.1 hc26
            exact J24 _ _  hw _ _ hP hS ls (lv_sub hl [2, 3, 1] rfl)
          · have hw := hw.2 hc26
            refine lv_aload_n hx hb dX3_fill_34 rfl (lv_at hl 2 rfl) ?_
            refine lv_aload_n hx hb dX3_fill_35 rfl (lv_at hl 3 rfl) ?_
            refine lv_aload_n hx hb dX3_fill_36 rfl (lv_at hl 2 rfl) ?_
            refine gf_X3_9 C hP (o := o) ho dX3_fill_37 ?_
            refine lv_iload hx hb dX3_fill_40 (lv_at hl 0 rfl) ?_
            obtain ⟨hn27, hw⟩ := hw
            refine sy_iald C hP (o := (o + 1)) (ko_mem ho).1.1 (ko_mem ho).1.2 hn27 dX3_fill_42 ?_
            refine sy_goi (sy_runV C hP ho rfl (m_X3_addHeadsBehind l G hi _ _ _ ho hq1 nq1 _ _ hw) mw_X3_addHeadsBehind w_368 ws_5 w_366 (rest := []) rfl hl.1 rfl (Nat.le_of_ble_eq_true rfl) ⟨Nat.le_of_ble_eq_true rfl, Nat.le_of_ble_eq_true rfl⟩ dX3_fill_43 ⟨Nat.zero_le _, Nat.zero_le _⟩) hS (fun _ h => h) (fun r29 T28 H locs hw hP hS => ?_)
            refine lv_istore_n (lv' := [(3, .int r29), (4, .int v4_4), (0, .ref (G.2.2 o)), (1, .ref (G.2.2 q1))]) hx hb dX3_fill_46 rfl hl (by decide) rfl (fun ls hl => ?_)
            refine lv_iinc (v := v4_4 + 1) (lv' := [(4, .int (v4_4 + 1)), (3, .int r29), (0, .ref (G.2.2 o)), (1, .ref (G.2.2 q1))]) hx hb dX3_fill_47 hl (k := 1) rfl rfl (by decide) rfl (fun ls hl => ?_)
            refine lv_goto (tgt := 14) hx hb dX3_fill_50 (by decide) ?_
            exact ih10 _ _ _ hw.1 (Nat.lt_of_lt_of_le hw.2 (Nat.le_of_lt_succ hlt11)) _ _ hP hS ls (lv_sub hl [0, 1, 2, 3] rfl)
  exact L12 _ _ _ _ hI (Nat.lt_succ_self _) _ _ hP hS ls (lv_sub hl [0, 1, 2, 3] rfl)
theorem mw_X3_placeCount : MW yX3_placeCount cX3_placeCount 3 (some .int) 0 := ⟨w_405, w_5, by decide +kernel⟩
def wb_X3_placeCount_4 (o : Nat) (k4 : (Int32 × Int32) → St → Prop) (v1_1 : Int32) (v2_2 : Int32) (T3 : St) (post : Int32 → St → Prop) : Prop :=
 (T3.1 o 3 ≤ v2_2 → post v1_1 T3) ∧ (¬ T3.1 o 3 ≤ v2_2 → vp_in v2_2 24 ∧ (wp_X6_lengthOf (T3.1 (o + 2) v2_2.toNatClampNeg) T3 (fun r14 T13 => k4 (v1_1 + r14, v2_2 + 1) T13)))
def wp_X3_placeCount (o : Nat) (T : St) (post : Int32 → St → Prop) : Prop :=
  LW (fun kl (vl : Int32 × Int32) Tl => wb_X3_placeCount_4 o kl vl.1 vl.2 Tl post) (0, 0) T
set_option maxHeartbeats 4000000 in
set_option maxRecDepth 100000 in
theorem m_X3_placeCount (l : Launch) (G : Gm) (hi : Inj G) (o : Nat) (ho : ko o = 3) (T : St) (post : Int32 → St → Prop) (hw : wp_X3_placeCount o T post) : Mi l yX3_placeCount cX3_placeCount 3 (some .int) 2 40 G [.ref (G.2.2 o)] T post := by
  refine sy_head hi (by decide) (Nat.le_of_ble_eq_true rfl) (lv := [(0, .ref (G.2.2 o))]) rfl ?_
  intro p e s m below meth c C hr hlocks hP hS ls hl
  have C : Cx p s m _ c cX3_placeCount 3 RX3 G := C
  obtain ⟨hx, hb, hml, hown, hg, hK, hN, -⟩ := id C
  unfold wp_X3_placeCount at hw
  refine lv_iconst (v := 0) hx hb dX3_placeCount_0 (by decide) ?_
  refine lv_istore_n (lv' := [(1, .int 0), (0, .ref (G.2.2 o))]) hx hb dX3_placeCount_1 rfl hl (by decide) rfl (fun ls hl => ?_)
  refine lv_iconst (v := 0) hx hb dX3_placeCount_2 (by decide) ?_
  refine lv_istore_n (lv' := [(2, .int 0), (1, .int 0), (0, .ref (G.2.2 o))]) hx hb dX3_placeCount_3 rfl hl (by decide) rfl (fun ls hl => ?_)
  obtain ⟨I5, u6, hI, hst7⟩ := hw
  have L10 : ∀ (n : Nat) (v1_1 : Int32) (v2_2 : Int32) (T3 : St), I5 (v1_1, v2_2) T3 → u6 (v1_1, v2_2) T3 < n → ∀ (H : Heap) (locs : List Loc), va_P G.1 sc_cl (wd G T3) H → va_S (SA G) s.heap H locs → ∀ ls : Array Slot, lv_has ls 3 [(2, .int v2_2), (1, .int v1_1), (0, .ref (G.2.2 o))] → W p l e { frames := 2, cells := 0, slots := 0, locals := 40 } s m ([.ref (G.2.2 o)] : List Value).toArray below meth c H locs 0 0 (MQ below (va_Qi post (Sy G) (SA G)) ([.ref (G.2.2 o)] : List Value).toArray s 0 0 (SA G)) (F0 m 4 ls []) := by
    intro n
    induction n with
    | zero => intro _ _ _ _ h; exact absurd h (Nat.not_lt_zero _)
    | succ n ih8 =>
      intro v1_1 v2_2 T3 hI hlt9 H locs hP hS ls hl
      have hw := hst7 (v1_1, v2_2) T3 hI
      unfold wb_X3_placeCount_4 at hw
      refine lv_iload_n hx hb dX3_placeCount_4 rfl (lv_at hl 0 rfl) ?_
      refine lv_aload_n hx hb dX3_placeCount_5 rfl (lv_at hl 2 rfl) ?_
      refine gf_X3_21 C hP (o := o) ho dX3_placeCount_6 ?_
      refine lv_icmp_ge (tgt := 30) hx hb dX3_placeCount_9 (by decide) (fun hc11 => ?_) (fun hc11 => ?_)
      · have hw := hw.1 hc11
        refine lv_iload_n hx hb dX3_placeCount_30 rfl (lv_at hl 1 rfl) ?_
        exact sy_iret C hr hlocks hP hS hw dX3_placeCount_31
      · have hw := hw.2 hc11
        refine lv_iload_n hx hb dX3_placeCount_12 rfl (lv_at hl 1 rfl) ?_
        refine lv_aload_n hx hb dX3_placeCount_13 rfl (lv_at hl 2 rfl) ?_
        refine gf_X3_15 C hP (o := o) ho dX3_placeCount_14 ?_
        refine lv_iload_n hx hb dX3_placeCount_17 rfl (lv_at hl 0 rfl) ?_
        obtain ⟨hn12, hw⟩ := hw
        refine sy_iald C hP (o := (o + 2)) (ko_mem ho).2.1.1 (ko_mem ho).2.1.2 hn12 dX3_placeCount_18 ?_
        refine sy_goi (sy_runSN C hP (m_X6_lengthOf l G hi _ _ _ hw) mw_X6_lengthOf w_317 (List.mem_of_getElem? (i := 2) rfl) (rest := [.int v1_1]) rfl hl.1 rfl (Nat.le_of_ble_eq_true rfl) ⟨Nat.le_of_ble_eq_true rfl, Nat.le_of_ble_eq_true rfl⟩ dX3_placeCount_19 ⟨Nat.zero_le _, Nat.zero_le _⟩) hS (fun _ h => h) (fun r14 T13 H locs hw hP hS => ?_)
        refine lv_iadd hx hb dX3_placeCount_22 ?_
        refine lv_istore_n (lv' := [(1, .int (v1_1 + r14)), (2, .int v2_2), (0, .ref (G.2.2 o))]) hx hb dX3_placeCount_23 rfl hl (by decide) rfl (fun ls hl => ?_)
        refine lv_iinc (v := v2_2 + 1) (lv' := [(2, .int (v2_2 + 1)), (1, .int (v1_1 + r14)), (0, .ref (G.2.2 o))]) hx hb dX3_placeCount_24 hl (k := 1) rfl rfl (by decide) rfl (fun ls hl => ?_)
        refine lv_goto (tgt := 4) hx hb dX3_placeCount_27 (by decide) ?_
        exact ih8 _ _ _ hw.1 (Nat.lt_of_lt_of_le hw.2 (Nat.le_of_lt_succ hlt9)) _ _ hP hS ls (lv_sub hl [0, 1, 2] rfl)
  exact L10 _ _ _ _ hI (Nat.lt_succ_self _) _ _ hP hS ls (lv_sub hl [0, 1, 2] rfl)
theorem mw_X3_isAsIn : MW yX3_isAsIn cX3_isAsIn 3 (some .boolean) 1 := ⟨w_535, w_5, by decide +kernel⟩
def wb_X3_isAsIn_2 (o : Nat) (q1 : Nat) (k3 : (Int32) → St → Prop) (v2_1 : Int32) (T2 : St) (post : Int32 → St → Prop) : Prop :=
 (T2.1 o 3 ≤ v2_1 → post 1 T2) ∧ (¬ T2.1 o 3 ≤ v2_1 → vp_in v2_1 24 ∧ (vp_in (T2.1 (o + 1) v2_1.toNatClampNeg) 256 ∧ (vp_in v2_1 24 ∧ ((T2.1 q1 (T2.1 (o + 1) v2_1.toNatClampNeg).toNatClampNeg = T2.1 (o + 2) v2_1.toNatClampNeg → vp_in v2_1 24 ∧ (wp_X6_hasOperand (T2.1 (o + 2) v2_1.toNatClampNeg) T2 (fun r17 T16 => (r17 = 0 → k3 (v2_1 + 1) T16) ∧ (¬ r17 = 0 → vp_in v2_1 24 ∧ (vp_in (((T16.1 (o + 1) v2_1.toNatClampNeg) + 1) &&& 255) 256 ∧ (vp_in v2_1 24 ∧ ((T16.1 q1 (((T16.1 (o + 1) v2_1.toNatClampNeg) + 1) &&& 255).toNatClampNeg = T16.1 (o + 3) v2_1.toNatClampNeg → k3 (v2_1 + 1) T16) ∧ (¬ T16.1 q1 (((T16.1 (o + 1) v2_1.toNatClampNeg) + 1) &&& 255).toNatClampNeg = T16.1 (o + 3) v2_1.toNatClampNeg → post 0 T16)))))))) ∧ (¬ T2.1 q1 (T2.1 (o + 1) v2_1.toNatClampNeg).toNatClampNeg = T2.1 (o + 2) v2_1.toNatClampNeg → post 0 T2)))))
def wp_X3_isAsIn (o : Nat) (q1 : Nat) (T : St) (post : Int32 → St → Prop) : Prop :=
  LW (fun kl (vl : Int32) Tl => wb_X3_isAsIn_2 o q1 kl vl Tl post) 0 T
set_option maxHeartbeats 4000000 in
set_option maxRecDepth 100000 in
theorem m_X3_isAsIn (l : Launch) (G : Gm) (hi : Inj G) (o : Nat) (q1 : Nat) (ho : ko o = 3) (hq1 : ko q1 = 10) (nq1 : len q1 = 256) (T : St) (post : Int32 → St → Prop) (hw : wp_X3_isAsIn o q1 T post) : Mi l yX3_isAsIn cX3_isAsIn 3 (some .boolean) 1 20 G [.ref (G.2.2 o), .ref (G.2.2 q1)] T post := by
  refine sy_head hi (by decide) (Nat.le_of_ble_eq_true rfl) (lv := [(0, .ref (G.2.2 o)), (1, .ref (G.2.2 q1))]) rfl ?_
  intro p e s m below meth c C hr hlocks hP hS ls hl
  have C : Cx p s m _ c cX3_isAsIn 3 RX3 G := C
  obtain ⟨hx, hb, hml, hown, hg, hK, hN, -⟩ := id C
  unfold wp_X3_isAsIn at hw
  refine lv_iconst (v := 0) hx hb dX3_isAsIn_0 (by decide) ?_
  refine lv_istore_n (lv' := [(2, .int 0), (0, .ref (G.2.2 o)), (1, .ref (G.2.2 q1))]) hx hb dX3_isAsIn_1 rfl hl (by decide) rfl (fun ls hl => ?_)
  obtain ⟨I4, u5, hI, hst6⟩ := hw
  have L9 : ∀ (n : Nat) (v2_1 : Int32) (T2 : St), I4 v2_1 T2 → u5 v2_1 T2 < n → ∀ (H : Heap) (locs : List Loc), va_P G.1 sc_cl (wd G T2) H → va_S (SA G) s.heap H locs → ∀ ls : Array Slot, lv_has ls 3 [(2, .int v2_1), (0, .ref (G.2.2 o)), (1, .ref (G.2.2 q1))] → W p l e { frames := 1, cells := 0, slots := 0, locals := 20 } s m ([.ref (G.2.2 o), .ref (G.2.2 q1)] : List Value).toArray below meth c H locs 0 0 (MQ below (va_Qi post (Sy G) (SA G)) ([.ref (G.2.2 o), .ref (G.2.2 q1)] : List Value).toArray s 0 0 (SA G)) (F0 m 2 ls []) := by
    intro n
    induction n with
    | zero => intro _ _ _ h; exact absurd h (Nat.not_lt_zero _)
    | succ n ih7 =>
      intro v2_1 T2 hI hlt8 H locs hP hS ls hl
      have hw := hst6 v2_1 T2 hI
      unfold wb_X3_isAsIn_2 at hw
      refine lv_iload_n hx hb dX3_isAsIn_2 rfl (lv_at hl 0 rfl) ?_
      refine lv_aload_n hx hb dX3_isAsIn_3 rfl (lv_at hl 1 rfl) ?_
      refine gf_X3_21 C hP (o := o) ho dX3_isAsIn_4 ?_
      refine lv_icmp_ge (tgt := 72) hx hb dX3_isAsIn_7 (by decide) (fun hc10 => ?_) (fun hc10 => ?_)
      · have hw := hw.1 hc10
        refine lv_iconst (v := 1) hx hb dX3_isAsIn_72 (by decide) ?_
        exact sy_zret C hr hlocks hP hS rfl hw dX3_isAsIn_73
      · have hw := hw.2 hc10
        refine lv_aload_n hx hb dX3_isAsIn_10 rfl (lv_at hl 2 rfl) ?_
        refine lv_aload_n hx hb dX3_isAsIn_11 rfl (lv_at hl 1 rfl) ?_
        refine gf_X3_9 C hP (o := o) ho dX3_isAsIn_12 ?_
        refine lv_iload_n hx hb dX3_isAsIn_15 rfl (lv_at hl 0 rfl) ?_
        obtain ⟨hn11, hw⟩ := hw
        refine sy_iald C hP (o := (o + 1)) (ko_mem ho).1.1 (ko_mem ho).1.2 hn11 dX3_isAsIn_16 ?_
        obtain ⟨hn12, hw⟩ := hw
        refine sy_iald C hP (o := q1) hq1 nq1 hn12 dX3_isAsIn_17 ?_
        refine lv_aload_n hx hb dX3_isAsIn_18 rfl (lv_at hl 1 rfl) ?_
        refine gf_X3_15 C hP (o := o) ho dX3_isAsIn_19 ?_
        refine lv_iload_n hx hb dX3_isAsIn_22 rfl (lv_at hl 0 rfl) ?_
        obtain ⟨hn13, hw⟩ := hw
        refine sy_iald C hP (o := (o + 2)) (ko_mem ho).2.1.1 (ko_mem ho).2.1.2 hn13 dX3_isAsIn_23 ?_
        refine lv_icmp_eq (tgt := 29) hx hb dX3_isAsIn_24 (by decide) (fun hc14 => ?_) (fun hc14 => ?_)
        · have hw := hw.1 hc14
          refine lv_aload_n hx hb dX3_isAsIn_29 rfl (lv_at hl 1 rfl) ?_
          refine gf_X3_15 C hP (o := o) ho dX3_isAsIn_30 ?_
          refine lv_iload_n hx hb dX3_isAsIn_33 rfl (lv_at hl 0 rfl) ?_
          obtain ⟨hn15, hw⟩ := hw
          refine sy_iald C hP (o := (o + 2)) (ko_mem ho).2.1.1 (ko_mem ho).2.1.2 hn15 dX3_isAsIn_34 ?_
          refine sy_goi (sy_runSN C hP (m_X6_hasOperand l G hi _ _ _ hw) mw_X6_hasOperand w_320 (List.mem_of_getElem? (i := 4) rfl) (rest := []) rfl hl.1 rfl (Nat.le_of_ble_eq_true rfl) ⟨Nat.le_of_ble_eq_true rfl, Nat.le_of_ble_eq_true rfl⟩ dX3_isAsIn_35 ⟨Nat.zero_le _, Nat.zero_le _⟩) hS (fun _ h => h) (fun r17 T16 H locs hw hP hS => ?_)
          refine lv_if_eq (tgt := 66) hx hb dX3_isAsIn_38 (by decide) (fun hc18 => ?_) (fun hc18 => ?_)
          · have hw := hw.1 hc18
            refine lv_iinc (v := v2_1 + 1) (lv' := [(2, .int (v2_1 + 1)), (0, .ref (G.2.2 o)), (1, .ref (G.2.2 q1))]) hx hb dX3_isAsIn_66 hl (k := 0) rfl rfl (by decide) rfl (fun ls hl => ?_)
            refine lv_goto (tgt := 2) hx hb dX3_isAsIn_69 (by decide) ?_
            exact ih7 _ _ hw.1 (Nat.lt_of_lt_of_le hw.2 (Nat.le_of_lt_succ hlt8)) _ _ hP hS ls (lv_sub hl [0, 1, 2] rfl)
          · have hw := hw.2 hc18
            refine lv_aload_n hx hb dX3_isAsIn_41 rfl (lv_at hl 2 rfl) ?_
            refine lv_aload_n hx hb dX3_isAsIn_42 rfl (lv_at hl 1 rfl) ?_
            refine gf_X3_9 C hP (o := o) ho dX3_isAsIn_43 ?_
            refine lv_iload_n hx hb dX3_isAsIn_46 rfl (lv_at hl 0 rfl) ?_
            obtain ⟨hn19, hw⟩ := hw
            refine sy_iald C hP (o := (o + 1)) (ko_mem ho).1.1 (ko_mem ho).1.2 hn19 dX3_isAsIn_47 ?_
            refine lv_iconst (v := 1) hx hb dX3_isAsIn_48 (by decide) ?_
            refine lv_iadd hx hb dX3_isAsIn_49 ?_
            refine lv_sipush (v := 255) hx hb dX3_isAsIn_50 (by decide) ?_
            refine lv_iand hx hb dX3_isAsIn_53 ?_
            obtain ⟨hn20, hw⟩ := hw
            refine sy_iald C hP (o := q1) hq1 nq1 hn20 dX3_isAsIn_54 ?_
            refine lv_aload_n hx hb dX3_isAsIn_55 rfl (lv_at hl 1 rfl) ?_
            refine gf_X3_18 C hP (o := o) ho dX3_isAsIn_56 ?_
            refine lv_iload_n hx hb dX3_isAsIn_59 rfl (lv_at hl 0 rfl) ?_
            obtain ⟨hn21, hw⟩ := hw
            refine sy_iald C hP (o := (o + 3)) (ko_mem ho).2.2.1 (ko_mem ho).2.2.2 hn21 dX3_isAsIn_60 ?_
            refine lv_icmp_eq (tgt := 66) hx hb dX3_isAsIn_61 (by decide) (fun hc22 => ?_) (fun hc22 => ?_)
            · have hw := hw.1 hc22
              refine lv_iinc (v := v2_1 + 1) (lv' := [(2, .int (v2_1 + 1)), (0, .ref (G.2.2 o)), (1, .ref (G.2.2 q1))]) hx hb dX3_isAsIn_66 hl (k := 0) rfl rfl (by decide) rfl (fun ls hl => ?_)
              refine lv_goto (tgt := 2) hx hb dX3_isAsIn_69 (by decide) ?_
              exact ih7 _ _ hw.1 (Nat.lt_of_lt_of_le hw.2 (Nat.le_of_lt_succ hlt8)) _ _ hP hS ls (lv_sub hl [0, 1, 2] rfl)
            · have hw := hw.2 hc22
              refine lv_iconst (v := 0) hx hb dX3_isAsIn_64 (by decide) ?_
              exact sy_zret C hr hlocks hP hS rfl hw dX3_isAsIn_65
        · have hw := hw.2 hc14
          refine lv_iconst (v := 0) hx hb dX3_isAsIn_27 (by decide) ?_
          exact sy_zret C hr hlocks hP hS rfl hw dX3_isAsIn_28
  exact L9 _ _ _ hI (Nat.lt_succ_self _) _ _ hP hS ls (lv_sub hl [0, 1, 2] rfl)
theorem mw_X4_beginChanges : MW yX4_beginChanges cX4_beginChanges 1 none 0 := ⟨w_291, w_3, by decide +kernel⟩
def wp_X4_beginChanges (o : Nat) (T : St) (post : St → Prop) : Prop :=
  post (sv (sv T o 5 0) o 3 ((sv T o 5 0).1 o 2))
set_option maxHeartbeats 4000000 in
set_option maxRecDepth 100000 in
theorem m_X4_beginChanges (l : Launch) (G : Gm) (hi : Inj G) (o : Nat) (ho : ko o = 4) (T : St) (post : St → Prop) (hw : wp_X4_beginChanges o T post) : Mv l yX4_beginChanges cX4_beginChanges 1 none 0 0 G [.ref (G.2.2 o)] T post := by
  refine sy_head hi (by decide) (Nat.le_of_ble_eq_true rfl) (lv := [(0, .ref (G.2.2 o))]) rfl ?_
  intro p e s m below meth c C hr hlocks hP hS ls hl
  have C : Cx p s m _ c cX4_beginChanges 1 RX4 G := C
  obtain ⟨hx, hb, hml, hown, hg, hK, hN, -⟩ := id C
  unfold wp_X4_beginChanges at hw
  refine lv_aload_n hx hb dX4_beginChanges_0 rfl (lv_at hl 0 rfl) ?_
  refine lv_iconst (v := 0) hx hb dX4_beginChanges_1 (by decide) ?_
  refine pf_X4_19 C hP hS (fun _ h => h) (o := o) ho dX4_beginChanges_2 (fun H locs hP hS => ?_)
  refine lv_aload_n hx hb dX4_beginChanges_5 rfl (lv_at hl 0 rfl) ?_
  refine lv_aload_n hx hb dX4_beginChanges_6 rfl (lv_at hl 0 rfl) ?_
  refine gf_X4_23 C hP (o := o) ho dX4_beginChanges_7 ?_
  refine pf_X4_26 C hP hS (fun _ h => h) (o := o) ho dX4_beginChanges_10 (fun H locs hP hS => ?_)
  exact sy_vret C hr hlocks hP hS hw dX4_beginChanges_13
theorem mw_X4_wasDropped : MW yX4_wasDropped cX4_wasDropped 2 (some .boolean) 1 := ⟨w_311, w_3, by decide +kernel⟩
def wp_X4_wasDropped (o : Nat) (a1 : Int32) (T : St) (post : Int32 → St → Prop) : Prop :=
  ((((T.1 o 3) &&& ((T.1 o 2) ^^^ (-1))) >>> (a1 &&& 31)) &&& 1 = 0 → post 0 T) ∧ (¬ (((T.1 o 3) &&& ((T.1 o 2) ^^^ (-1))) >>> (a1 &&& 31)) &&& 1 = 0 → post 1 T)
set_option maxHeartbeats 4000000 in
set_option maxRecDepth 100000 in
theorem m_X4_wasDropped (l : Launch) (G : Gm) (hi : Inj G) (o : Nat) (a1 : Int32) (ho : ko o = 4) (T : St) (post : Int32 → St → Prop) (hw : wp_X4_wasDropped o a1 T post) : Mi l yX4_wasDropped cX4_wasDropped 2 (some .boolean) 0 0 G [.ref (G.2.2 o), .int a1] T post := by
  refine sy_head hi (by decide) (Nat.le_of_ble_eq_true rfl) (lv := [(0, .ref (G.2.2 o)), (1, .int a1)]) rfl ?_
  intro p e s m below meth c C hr hlocks hP hS ls hl
  have C : Cx p s m _ c cX4_wasDropped 2 RX4 G := C
  obtain ⟨hx, hb, hml, hown, hg, hK, hN, -⟩ := id C
  unfold wp_X4_wasDropped at hw
  refine lv_aload_n hx hb dX4_wasDropped_0 rfl (lv_at hl 0 rfl) ?_
  refine gf_X4_26 C hP (o := o) ho dX4_wasDropped_1 ?_
  refine lv_aload_n hx hb dX4_wasDropped_4 rfl (lv_at hl 0 rfl) ?_
  refine gf_X4_23 C hP (o := o) ho dX4_wasDropped_5 ?_
  refine lv_iconst (v := (-1)) hx hb dX4_wasDropped_8 (by decide) ?_
  refine lv_ixor hx hb dX4_wasDropped_9 ?_
  refine lv_iand hx hb dX4_wasDropped_10 ?_
  refine lv_iload_n hx hb dX4_wasDropped_11 rfl (lv_at hl 1 rfl) ?_
  refine lv_ishr hx hb dX4_wasDropped_12 ?_
  refine lv_iconst (v := 1) hx hb dX4_wasDropped_13 (by decide) ?_
  refine lv_iand hx hb dX4_wasDropped_14 ?_
  refine lv_if_eq (tgt := 22) hx hb dX4_wasDropped_15 (by decide) (fun hc1 => ?_) (fun hc1 => ?_)
  · have hw := hw.1 hc1
    refine lv_iconst (v := 0) hx hb dX4_wasDropped_22 (by decide) ?_
    exact sy_zret C hr hlocks hP hS rfl hw dX4_wasDropped_23
  · have hw := hw.2 hc1
    refine lv_iconst (v := 1) hx hb dX4_wasDropped_18 (by decide) ?_
    refine lv_goto (tgt := 23) hx hb dX4_wasDropped_19 (by decide) ?_
    exact sy_zret C hr hlocks hP hS rfl hw dX4_wasDropped_23
theorem mw_X4_copyFrom : MW yX4_copyFrom cX4_copyFrom 3 none 2 := ⟨w_493, w_3, by decide +kernel⟩
def wp_X4_copyFrom (o : Nat) (q1 : Nat) (a2 : Int32) (T : St) (post : St → Prop) : Prop :=
  wp_X4_beginChanges o (sv (sa T (o + 1) (va_cpy (T.1 (q1 + 1)) (T.1 (o + 1)) 0 0 256)) o 2 a2) (fun T1 => post T1)
set_option maxHeartbeats 4000000 in
set_option maxRecDepth 100000 in
theorem m_X4_copyFrom (l : Launch) (G : Gm) (hi : Inj G) (o : Nat) (q1 : Nat) (a2 : Int32) (ho : ko o = 4) (hq1 : ko q1 = 4) (T : St) (post : St → Prop) (hw : wp_X4_copyFrom o q1 a2 T post) : Mv l yX4_copyFrom cX4_copyFrom 3 none 1 80 G [.ref (G.2.2 o), .ref (G.2.2 q1), .int a2] T post := by
  refine sy_head hi (by decide) (Nat.le_of_ble_eq_true rfl) (lv := [(0, .ref (G.2.2 o)), (1, .ref (G.2.2 q1)), (2, .int a2)]) rfl ?_
  intro p e s m below meth c C hr hlocks hP hS ls hl
  have C : Cx p s m _ c cX4_copyFrom 3 RX4 G := C
  obtain ⟨hx, hb, hml, hown, hg, hK, hN, -⟩ := id C
  unfold wp_X4_copyFrom at hw
  refine lv_aload_n hx hb dX4_copyFrom_0 rfl (lv_at hl 1 rfl) ?_
  refine gf_X4_9 C hP (o := q1) hq1 dX4_copyFrom_1 ?_
  refine lv_iconst (v := 0) hx hb dX4_copyFrom_4 (by decide) ?_
  refine lv_aload_n hx hb dX4_copyFrom_5 rfl (lv_at hl 0 rfl) ?_
  refine gf_X4_9 C hP (o := o) ho dX4_copyFrom_6 ?_
  refine lv_iconst (v := 0) hx hb dX4_copyFrom_9 (by decide) ?_
  refine lv_sipush (v := 256) hx hb dX4_copyFrom_10 (by decide) ?_
  refine sy_copy C hP hS (fun _ h => h) hl.1 (o1 := (q1 + 1)) (o2 := (o + 1)) (ko_by hq1).1 (ko_by ho).1 (ko_by hq1).2 (ko_by ho).2 w_494 w_287 w_286 w_9 (Nat.le_of_ble_eq_true rfl) (Nat.le_of_ble_eq_true rfl) dX4_copyFrom_13 (fun H locs hP hS => ?_)
  refine lv_aload_n hx hb dX4_copyFrom_16 rfl (lv_at hl 0 rfl) ?_
  refine lv_iload_n hx hb dX4_copyFrom_17 rfl (lv_at hl 2 rfl) ?_
  refine pf_X4_23 C hP hS (fun _ h => h) (o := o) ho dX4_copyFrom_18 (fun H locs hP hS => ?_)
  refine lv_aload_n hx hb dX4_copyFrom_21 rfl (lv_at hl 0 rfl) ?_
  refine sy_gov (sy_runV C hP ho rfl (m_X4_beginChanges l G hi _ ho _ _ hw) mw_X4_beginChanges w_289 w_290 w_495 (rest := []) rfl hl.1 rfl (Nat.le_of_ble_eq_true rfl) ⟨Nat.le_of_ble_eq_true rfl, Nat.le_of_ble_eq_true rfl⟩ dX4_copyFrom_22 ⟨Nat.zero_le _, Nat.zero_le _⟩) hS (fun _ h => h) (fun T1 H locs hw hP hS => ?_)
  exact sy_vret C hr hlocks hP hS hw dX4_copyFrom_25
theorem mw_X4_empty : MW yX4_empty cX4_empty 1 none 0 := ⟨w_563, w_3, by decide +kernel⟩
def wp_X4_empty (o : Nat) (T : St) (post : St → Prop) : Prop :=
  wp_J7_fill_53178 (o + 1) 256 0 T (fun T1 => wp_X4_beginChanges o (sv (sv T1 o 2 0) o 4 0) (fun T3 => post T3))
set_option maxHeartbeats 4000000 in
set_option maxRecDepth 100000 in
theorem m_X4_empty (l : Launch) (G : Gm) (hi : Inj G) (o : Nat) (ho : ko o = 4) (T : St) (post : St → Prop) (hw : wp_X4_empty o T post) : Mv l yX4_empty cX4_empty 1 none 1 23 G [.ref (G.2.2 o)] T post := by
  refine sy_head hi (by decide) (Nat.le_of_ble_eq_true rfl) (lv := [(0, .ref (G.2.2 o))]) rfl ?_
  intro p e s m below meth c C hr hlocks hP hS ls hl
  have C : Cx p s m _ c cX4_empty 1 RX4 G := C
  obtain ⟨hx, hb, hml, hown, hg, hK, hN, -⟩ := id C
  unfold wp_X4_empty at hw
  refine lv_aload_n hx hb dX4_empty_0 rfl (lv_at hl 0 rfl) ?_
  refine gf_X4_9 C hP (o := o) ho dX4_empty_1 ?_
  refine lv_iconst (v := 0) hx hb dX4_empty_4 (by decide) ?_
  refine sy_gov (sy_runS C hP (m_J7_fill_53178 l G hi _ _ _ (ko_by ho).1 (ko_by ho).2 _ _ hw) mw_J7_fill_53178 w_565 w_564 (rest := []) rfl hl.1 rfl (Nat.le_of_ble_eq_true rfl) ⟨Nat.le_of_ble_eq_true rfl, Nat.le_of_ble_eq_true rfl⟩ dX4_empty_5 ⟨Nat.zero_le _, Nat.zero_le _⟩) hS (fun _ h => h) (fun T1 H locs hw hP hS => ?_)
  refine lv_aload_n hx hb dX4_empty_8 rfl (lv_at hl 0 rfl) ?_
  refine lv_iconst (v := 0) hx hb dX4_empty_9 (by decide) ?_
  refine pf_X4_23 C hP hS (fun _ h => h) (o := o) ho dX4_empty_10 (fun H locs hP hS => ?_)
  refine lv_aload_n hx hb dX4_empty_13 rfl (lv_at hl 0 rfl) ?_
  refine lv_iconst (v := 0) hx hb dX4_empty_14 (by decide) ?_
  refine pf_X4_34 C hP hS (fun _ h => h) (o := o) ho dX4_empty_15 (fun H locs hP hS => ?_)
  refine lv_aload_n hx hb dX4_empty_18 rfl (lv_at hl 0 rfl) ?_
  refine sy_gov (sy_runV C hP ho rfl (m_X4_beginChanges l G hi _ ho _ _ hw) mw_X4_beginChanges w_289 w_290 w_495 (rest := []) rfl hl.1 rfl (Nat.le_of_ble_eq_true rfl) ⟨Nat.le_of_ble_eq_true rfl, Nat.le_of_ble_eq_true rfl⟩ dX4_empty_19 ⟨Nat.zero_le _, Nat.zero_le _⟩) hS (fun _ h => h) (fun T3 H locs hw hP hS => ?_)
  exact sy_vret C hr hlocks hP hS hw dX4_empty_22
theorem mw_X5_begin : MW yX5_begin cX5_begin 2 none 1 := ⟨w_341, w_6, by decide +kernel⟩
def wp_X5_begin (o : Nat) (a1 : Int32) (T : St) (post : St → Prop) : Prop :=
  post (sv (sv (sv T o 3 a1) o 4 0) o 2 0)
set_option maxHeartbeats 4000000 in
set_option maxRecDepth 100000 in
theorem m_X5_begin (l : Launch) (G : Gm) (hi : Inj G) (o : Nat) (a1 : Int32) (ho : ko o = 5) (T : St) (post : St → Prop) (hw : wp_X5_begin o a1 T post) : Mv l yX5_begin cX5_begin 2 none 0 0 G [.ref (G.2.2 o), .int a1] T post := by
  refine sy_head hi (by decide) (Nat.le_of_ble_eq_true rfl) (lv := [(0, .ref (G.2.2 o)), (1, .int a1)]) rfl ?_
  intro p e s m below meth c C hr hlocks hP hS ls hl
  have C : Cx p s m _ c cX5_begin 2 RX5 G := C
  obtain ⟨hx, hb, hml, hown, hg, hK, hN, -⟩ := id C
  unfold wp_X5_begin at hw
  refine lv_aload_n hx hb dX5_begin_0 rfl (lv_at hl 0 rfl) ?_
  refine lv_iload_n hx hb dX5_begin_1 rfl (lv_at hl 1 rfl) ?_
  refine pf_X5_21 C hP hS (fun _ h => h) (o := o) ho dX5_begin_2 (fun H locs hP hS => ?_)
  refine lv_aload_n hx hb dX5_begin_5 rfl (lv_at hl 0 rfl) ?_
  refine lv_iconst (v := 0) hx hb dX5_begin_6 (by decide) ?_
  refine pf_X5_25 C hP hS (fun _ h => h) (o := o) ho dX5_begin_7 (fun H locs hP hS => ?_)
  refine lv_aload_n hx hb dX5_begin_10 rfl (lv_at hl 0 rfl) ?_
  refine lv_iconst (v := 0) hx hb dX5_begin_11 (by decide) ?_
  refine pf_X5_28 C hP hS (fun _ h => h) (o := o) ho rfl rfl dX5_begin_12 (fun H locs hP hS => ?_)
  exact sy_vret C hr hlocks hP hS hw dX5_begin_15
theorem mw_X5_isWalkedForGood : MW yX5_isWalkedForGood cX5_isWalkedForGood 1 (some .boolean) 0 := ⟨w_353, w_6, by decide +kernel⟩
def wp_X5_isWalkedForGood (o : Nat) (T : St) (post : Int32 → St → Prop) : Prop :=
  (T.1 o 4 < 3 → post 0 T) ∧ (¬ T.1 o 4 < 3 → post 1 T)
set_option maxHeartbeats 4000000 in
set_option maxRecDepth 100000 in
theorem m_X5_isWalkedForGood (l : Launch) (G : Gm) (hi : Inj G) (o : Nat) (ho : ko o = 5) (T : St) (post : Int32 → St → Prop) (hw : wp_X5_isWalkedForGood o T post) : Mi l yX5_isWalkedForGood cX5_isWalkedForGood 1 (some .boolean) 0 0 G [.ref (G.2.2 o)] T post := by
  refine sy_head hi (by decide) (Nat.le_of_ble_eq_true rfl) (lv := [(0, .ref (G.2.2 o))]) rfl ?_
  intro p e s m below meth c C hr hlocks hP hS ls hl
  have C : Cx p s m _ c cX5_isWalkedForGood 1 RX5 G := C
  obtain ⟨hx, hb, hml, hown, hg, hK, hN, -⟩ := id C
  unfold wp_X5_isWalkedForGood at hw
  refine lv_aload_n hx hb dX5_isWalkedForGood_0 rfl (lv_at hl 0 rfl) ?_
  refine gf_X5_25 C hP (o := o) ho dX5_isWalkedForGood_1 ?_
  refine lv_iconst (v := 3) hx hb dX5_isWalkedForGood_4 (by decide) ?_
  refine lv_icmp_lt (tgt := 12) hx hb dX5_isWalkedForGood_5 (by decide) (fun hc1 => ?_) (fun hc1 => ?_)
  · have hw := hw.1 hc1
    refine lv_iconst (v := 0) hx hb dX5_isWalkedForGood_12 (by decide) ?_
    exact sy_zret C hr hlocks hP hS rfl hw dX5_isWalkedForGood_13
  · have hw := hw.2 hc1
    refine lv_iconst (v := 1) hx hb dX5_isWalkedForGood_8 (by decide) ?_
    refine lv_goto (tgt := 13) hx hb dX5_isWalkedForGood_9 (by decide) ?_
    exact sy_zret C hr hlocks hP hS rfl hw dX5_isWalkedForGood_13
theorem mw_X5_exchange : MW yX5_exchange cX5_exchange 2 none 0 := ⟨w_329, w_6, by decide +kernel⟩
def wp_X5_exchange (o : Nat) (T : St) (post : St → Prop) : Prop :=
  post (sv (sv T o 0 ((T).1 o 1)) o 1 ((T).1 o 0))
set_option maxHeartbeats 4000000 in
set_option maxRecDepth 100000 in
theorem m_X5_exchange (l : Launch) (G : Gm) (hi : Inj G) (o : Nat) (ho : ko o = 5) (T : St) (post : St → Prop) (hw : wp_X5_exchange o T post) : Mv l yX5_exchange cX5_exchange 2 none 0 0 G [.ref (G.2.2 o)] T post := by
  refine sy_head hi (by decide) (Nat.le_of_ble_eq_true rfl) (lv := [(0, .ref (G.2.2 o))]) rfl ?_
  intro p e s m below meth c C hr hlocks hP hS ls hl
  have C : Cx p s m _ c cX5_exchange 2 RX5 G := C
  obtain ⟨hx, hb, hml, hown, hg, hK, hN, -⟩ := id C
  unfold wp_X5_exchange at hw
  refine lv_aload_n hx hb dX5_exchange_0 rfl (lv_at hl 0 rfl) ?_
  refine gf_X5_12 C hP (o := o) ho dX5_exchange_1 ?_
  refine lv_astore_n (lv' := [(1, .ref (G.2.2 (mb o ((T).1 o 0)))), (0, .ref (G.2.2 o))]) hx hb dX5_exchange_4 rfl hl (by decide) rfl (fun ls hl => ?_)
  refine lv_aload_n hx hb dX5_exchange_5 rfl (lv_at hl 1 rfl) ?_
  refine lv_aload_n hx hb dX5_exchange_6 rfl (lv_at hl 1 rfl) ?_
  refine gf_X5_18 C hP (o := o) ho dX5_exchange_7 ?_
  refine pf_X5_12 C hP hS (fun _ h => h) (o := o) (v := ((T).1 o 1)) ho dX5_exchange_10 (fun H locs hP hS => ?_)
  refine lv_aload_n hx hb dX5_exchange_13 rfl (lv_at hl 1 rfl) ?_
  refine lv_aload_n hx hb dX5_exchange_14 rfl (lv_at hl 0 rfl) ?_
  refine pf_X5_18 C hP hS (fun _ h => h) (o := o) (v := ((T).1 o 0)) ho dX5_exchange_15 (fun H locs hP hS => ?_)
  exact sy_vret C hr hlocks hP hS hw dX5_exchange_18
theorem mw_X5_layAside : MW yX5_layAside cX5_layAside 1 none 0 := ⟨w_325, w_6, by decide +kernel⟩
def wp_X5_layAside (o : Nat) (T : St) (post : St → Prop) : Prop :=
  wp_X5_exchange o T (fun T1 => post (sv (sv T1 o 2 1) o 4 (((sv T1 o 2 1).1 o 4) + 1)))
set_option maxHeartbeats 4000000 in
set_option maxRecDepth 100000 in
theorem m_X5_layAside (l : Launch) (G : Gm) (hi : Inj G) (o : Nat) (ho : ko o = 5) (T : St) (post : St → Prop) (hw : wp_X5_layAside o T post) : Mv l yX5_layAside cX5_layAside 1 none 1 21 G [.ref (G.2.2 o)] T post := by
  refine sy_head hi (by decide) (Nat.le_of_ble_eq_true rfl) (lv := [(0, .ref (G.2.2 o))]) rfl ?_
  intro p e s m below meth c C hr hlocks hP hS ls hl
  have C : Cx p s m _ c cX5_layAside 1 RX5 G := C
  obtain ⟨hx, hb, hml, hown, hg, hK, hN, -⟩ := id C
  unfold wp_X5_layAside at hw
  refine lv_aload_n hx hb dX5_layAside_0 rfl (lv_at hl 0 rfl) ?_
  refine sy_gov (sy_runV C hP ho rfl (m_X5_exchange l G hi _ ho _ _ hw) mw_X5_exchange w_328 ws_3 w_326 (rest := []) rfl hl.1 rfl (Nat.le_of_ble_eq_true rfl) ⟨Nat.le_of_ble_eq_true rfl, Nat.le_of_ble_eq_true rfl⟩ dX5_layAside_1 ⟨Nat.zero_le _, Nat.zero_le _⟩) hS (fun _ h => h) (fun T1 H locs hw hP hS => ?_)
  refine lv_aload_n hx hb dX5_layAside_4 rfl (lv_at hl 0 rfl) ?_
  refine lv_iconst (v := 1) hx hb dX5_layAside_5 (by decide) ?_
  refine pf_X5_28 C hP hS (fun _ h => h) (o := o) ho rfl rfl dX5_layAside_6 (fun H locs hP hS => ?_)
  refine lv_aload_n hx hb dX5_layAside_9 rfl (lv_at hl 0 rfl) ?_
  refine lv_dup hx hb dX5_layAside_10 rfl ?_
  refine gf_X5_25 C hP (o := o) ho dX5_layAside_11 ?_
  refine lv_iconst (v := 1) hx hb dX5_layAside_14 (by decide) ?_
  refine lv_iadd hx hb dX5_layAside_15 ?_
  refine pf_X5_25 C hP hS (fun _ h => h) (o := o) ho dX5_layAside_16 (fun H locs hP hS => ?_)
  exact sy_vret C hr hlocks hP hS hw dX5_layAside_19
theorem mw_X5_canComeBack : MW yX5_canComeBack cX5_canComeBack 2 (some .boolean) 1 := ⟨w_530, w_6, by decide +kernel⟩
def wp_X5_canComeBack (o : Nat) (q1 : Nat) (T : St) (post : Int32 → St → Prop) : Prop :=
  (T.1 o 2 = 0 → post 0 T) ∧ (¬ T.1 o 2 = 0 → wp_X5_isWalkedForGood o T (fun r3 T2 => (¬ r3 = 0 → post 0 T2) ∧ (r3 = 0 → wp_X3_isAsIn (mb o ((T2).1 o 1)) q1 T2 (fun r6 T5 => (r6 = 0 → post 0 T5) ∧ (¬ r6 = 0 → post 1 T5)))))
set_option maxHeartbeats 4000000 in
set_option maxRecDepth 100000 in
theorem m_X5_canComeBack (l : Launch) (G : Gm) (hi : Inj G) (o : Nat) (q1 : Nat) (ho : ko o = 5) (hq1 : ko q1 = 10) (nq1 : len q1 = 256) (T : St) (post : Int32 → St → Prop) (hw : wp_X5_canComeBack o q1 T post) : Mi l yX5_canComeBack cX5_canComeBack 2 (some .boolean) 2 42 G [.ref (G.2.2 o), .ref (G.2.2 q1)] T post := by
  refine sy_head hi (by decide) (Nat.le_of_ble_eq_true rfl) (lv := [(0, .ref (G.2.2 o)), (1, .ref (G.2.2 q1))]) rfl ?_
  intro p e s m below meth c C hr hlocks hP hS ls hl
  have C : Cx p s m _ c cX5_canComeBack 2 RX5 G := C
  obtain ⟨hx, hb, hml, hown, hg, hK, hN, -⟩ := id C
  unfold wp_X5_canComeBack at hw
  refine lv_aload_n hx hb dX5_canComeBack_0 rfl (lv_at hl 0 rfl) ?_
  refine gf_X5_28 C hP (o := o) ho dX5_canComeBack_1 ?_
  refine lv_if_eq (tgt := 29) hx hb dX5_canComeBack_4 (by decide) (fun hc1 => ?_) (fun hc1 => ?_)
  · have hw := hw.1 hc1
    refine lv_iconst (v := 0) hx hb dX5_canComeBack_29 (by decide) ?_
    exact sy_zret C hr hlocks hP hS rfl hw dX5_canComeBack_30
  · have hw := hw.2 hc1
    refine lv_aload_n hx hb dX5_canComeBack_7 rfl (lv_at hl 0 rfl) ?_
    refine sy_goi (sy_runV C hP ho rfl (m_X5_isWalkedForGood l G hi _ ho _ _ hw) mw_X5_isWalkedForGood w_351 w_352 w_531 (rest := []) rfl hl.1 rfl (Nat.le_of_ble_eq_true rfl) ⟨Nat.le_of_ble_eq_true rfl, Nat.le_of_ble_eq_true rfl⟩ dX5_canComeBack_8 ⟨Nat.zero_le _, Nat.zero_le _⟩) hS (fun _ h => h) (fun r3 T2 H locs hw hP hS => ?_)
    refine lv_if_ne (tgt := 29) hx hb dX5_canComeBack_11 (by decide) (fun hc4 => ?_) (fun hc4 => ?_)
    · have hw := hw.1 hc4
      refine lv_iconst (v := 0) hx hb dX5_canComeBack_29 (by decide) ?_
      exact sy_zret C hr hlocks hP hS rfl hw dX5_canComeBack_30
    · have hw := hw.2 hc4
      refine lv_aload_n hx hb dX5_canComeBack_14 rfl (lv_at hl 0 rfl) ?_
      refine gf_X5_18 C hP (o := o) ho dX5_canComeBack_15 ?_
      refine lv_aload_n hx hb dX5_canComeBack_18 rfl (lv_at hl 1 rfl) ?_
      refine sy_goi (sy_runV C hP (ko_mb ho _) rfl (m_X3_isAsIn l G hi _ _ (ko_mb ho _) hq1 nq1 _ _ hw) mw_X3_isAsIn w_533 w_534 w_532 (rest := []) rfl hl.1 rfl (Nat.le_of_ble_eq_true rfl) ⟨Nat.le_of_ble_eq_true rfl, Nat.le_of_ble_eq_true rfl⟩ dX5_canComeBack_19 ⟨Nat.zero_le _, Nat.zero_le _⟩) hS (fun _ h => h) (fun r6 T5 H locs hw hP hS => ?_)
      refine lv_if_eq (tgt := 29) hx hb dX5_canComeBack_22 (by decide) (fun hc7 => ?_) (fun hc7 => ?_)
      · have hw := hw.1 hc7
        refine lv_iconst (v := 0) hx hb dX5_canComeBack_29 (by decide) ?_
        exact sy_zret C hr hlocks hP hS rfl hw dX5_canComeBack_30
      · have hw := hw.2 hc7
        refine lv_iconst (v := 1) hx hb dX5_canComeBack_25 (by decide) ?_
        refine lv_goto (tgt := 30) hx hb dX5_canComeBack_26 (by decide) ?_
        exact sy_zret C hr hlocks hP hS rfl hw dX5_canComeBack_30
theorem mw_X5_takeBack : MW yX5_takeBack cX5_takeBack 1 none 0 := ⟨w_539, w_6, by decide +kernel⟩
def wp_X5_takeBack (o : Nat) (T : St) (post : St → Prop) : Prop :=
  wp_X5_exchange o T (fun T1 => post (sv T1 o 2 0))
set_option maxHeartbeats 4000000 in
set_option maxRecDepth 100000 in
theorem m_X5_takeBack (l : Launch) (G : Gm) (hi : Inj G) (o : Nat) (ho : ko o = 5) (T : St) (post : St → Prop) (hw : wp_X5_takeBack o T post) : Mv l yX5_takeBack cX5_takeBack 1 none 1 21 G [.ref (G.2.2 o)] T post := by
  refine sy_head hi (by decide) (Nat.le_of_ble_eq_true rfl) (lv := [(0, .ref (G.2.2 o))]) rfl ?_
  intro p e s m below meth c C hr hlocks hP hS ls hl
  have C : Cx p s m _ c cX5_takeBack 1 RX5 G := C
  obtain ⟨hx, hb, hml, hown, hg, hK, hN, -⟩ := id C
  unfold wp_X5_takeBack at hw
  refine lv_aload_n hx hb dX5_takeBack_0 rfl (lv_at hl 0 rfl) ?_
  refine sy_gov (sy_runV C hP ho rfl (m_X5_exchange l G hi _ ho _ _ hw) mw_X5_exchange w_328 ws_3 w_326 (rest := []) rfl hl.1 rfl (Nat.le_of_ble_eq_true rfl) ⟨Nat.le_of_ble_eq_true rfl, Nat.le_of_ble_eq_true rfl⟩ dX5_takeBack_1 ⟨Nat.zero_le _, Nat.zero_le _⟩) hS (fun _ h => h) (fun T1 H locs hw hP hS => ?_)
  refine lv_aload_n hx hb dX5_takeBack_4 rfl (lv_at hl 0 rfl) ?_
  refine lv_iconst (v := 0) hx hb dX5_takeBack_5 (by decide) ?_
  refine pf_X5_28 C hP hS (fun _ h => h) (o := o) ho rfl rfl dX5_takeBack_6 (fun H locs hP hS => ?_)
  exact sy_vret C hr hlocks hP hS hw dX5_takeBack_9
