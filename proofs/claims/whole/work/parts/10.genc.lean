theorem mw_X7_thrown : MW yX7_thrown cX7_thrown 1 (some .int) 0 := ⟨w_868, w_8, by decide +kernel⟩
def wp_X7_thrown (T : St) (post : Int32 → St → Prop) : Prop :=
  post (T.1 130 0) T
set_option maxHeartbeats 4000000 in
set_option maxRecDepth 100000 in
theorem m_X7_thrown (l : Launch) (G : Gm) (hi : Inj G)   (T : St) (post : Int32 → St → Prop) (hw : wp_X7_thrown T post) : Mi l yX7_thrown cX7_thrown 1 (some .int) 0 0 G [.ref (G.2.2 130)] T post := by
  refine sy_head hi (by decide) (Nat.le_of_ble_eq_true rfl) (lv := [(0, .ref (G.2.2 130))]) rfl ?_
  intro p e s m below meth c C hr hlocks hP hS ls hl
  have C : Cx p s m _ c cX7_thrown 1 RX7 G := C
  obtain ⟨hx, hb, hml, hown, hg, hK, hN, -⟩ := id C
  unfold wp_X7_thrown at hw
  refine lv_aload_n hx hb dX7_thrown_0 rfl (lv_at hl 0 rfl) ?_
  refine gf_X7_71 C hP (o := 130) rfl dX7_thrown_1 ?_
  exact sy_iret C hr hlocks hP hS hw dX7_thrown_4
theorem mw_X7_in : MW yX7_in cX7_in 3 (some .boolean) 3 := ⟨w_875, w_8, by decide +kernel⟩
def wp_X7_in (a1 : Int32) (a2 : Int32) (a3 : Int32) (T : St) (post : Int32 → St → Prop) : Prop :=
  (a1 < a2 → post 0 T) ∧ (¬ a1 < a2 → (a3 < a1 → post 0 T) ∧ (¬ a3 < a1 → post 1 T))
set_option maxHeartbeats 4000000 in
set_option maxRecDepth 100000 in
theorem m_X7_in (l : Launch) (G : Gm) (hi : Inj G) (a1 : Int32) (a2 : Int32) (a3 : Int32)  (T : St) (post : Int32 → St → Prop) (hw : wp_X7_in a1 a2 a3 T post) : Mi l yX7_in cX7_in 3 (some .boolean) 0 0 G [.int a1, .int a2, .int a3] T post := by
  refine sy_head hi (by decide) (Nat.le_of_ble_eq_true rfl) (lv := [(0, .int a1), (1, .int a2), (2, .int a3)]) rfl ?_
  intro p e s m below meth c C hr hlocks hP hS ls hl
  have C : Cx p s m _ c cX7_in 3 RX7 G := C
  obtain ⟨hx, hb, hml, hown, hg, hK, hN, -⟩ := id C
  unfold wp_X7_in at hw
  refine lv_iload_n hx hb dX7_in_0 rfl (lv_at hl 0 rfl) ?_
  refine lv_iload_n hx hb dX7_in_1 rfl (lv_at hl 1 rfl) ?_
  refine lv_icmp_lt (tgt := 14) hx hb dX7_in_2 (by decide) (fun hc1 => ?_) (fun hc1 => ?_)
  · have hw := hw.1 hc1
    refine lv_iconst (v := 0) hx hb dX7_in_14 (by decide) ?_
    exact sy_zret C hr hlocks hP hS rfl hw dX7_in_15
  · have hw := hw.2 hc1
    refine lv_iload_n hx hb dX7_in_5 rfl (lv_at hl 0 rfl) ?_
    refine lv_iload_n hx hb dX7_in_6 rfl (lv_at hl 2 rfl) ?_
    refine lv_icmp_gt (tgt := 14) hx hb dX7_in_7 (by decide) (fun hc2 => ?_) (fun hc2 => ?_)
    · have hw := hw.1 hc2
      refine lv_iconst (v := 0) hx hb dX7_in_14 (by decide) ?_
      exact sy_zret C hr hlocks hP hS rfl hw dX7_in_15
    · have hw := hw.2 hc2
      refine lv_iconst (v := 1) hx hb dX7_in_10 (by decide) ?_
      refine lv_goto (tgt := 15) hx hb dX7_in_11 (by decide) ?_
      exact sy_zret C hr hlocks hP hS rfl hw dX7_in_15
theorem mw_X7_isRoutine : MW yX7_isRoutine cX7_isRoutine 2 (some .boolean) 1 := ⟨w_935, w_8, by decide +kernel⟩
def wp_X7_isRoutine (a1 : Int32) (T : St) (post : Int32 → St → Prop) : Prop :=
  wp_X7_in a1 0 ((T.1 130 2) - 1) T (fun r2 T1 => narrow .boolean (.int r2) = .int r2 ∧ post r2 T1)
set_option maxHeartbeats 4000000 in
set_option maxRecDepth 100000 in
theorem m_X7_isRoutine (l : Launch) (G : Gm) (hi : Inj G) (a1 : Int32)  (T : St) (post : Int32 → St → Prop) (hw : wp_X7_isRoutine a1 T post) : Mi l yX7_isRoutine cX7_isRoutine 2 (some .boolean) 1 22 G [.ref (G.2.2 130), .int a1] T post := by
  refine sy_head hi (by decide) (Nat.le_of_ble_eq_true rfl) (lv := [(0, .ref (G.2.2 130)), (1, .int a1)]) rfl ?_
  intro p e s m below meth c C hr hlocks hP hS ls hl
  have C : Cx p s m _ c cX7_isRoutine 2 RX7 G := C
  obtain ⟨hx, hb, hml, hown, hg, hK, hN, -⟩ := id C
  unfold wp_X7_isRoutine at hw
  refine lv_iload_n hx hb dX7_isRoutine_0 rfl (lv_at hl 1 rfl) ?_
  refine lv_iconst (v := 0) hx hb dX7_isRoutine_1 (by decide) ?_
  refine lv_aload_n hx hb dX7_isRoutine_2 rfl (lv_at hl 0 rfl) ?_
  refine gf_X7_75 C hP (o := 130) rfl dX7_isRoutine_3 ?_
  refine lv_iconst (v := 1) hx hb dX7_isRoutine_6 (by decide) ?_
  refine lv_isub hx hb dX7_isRoutine_7 ?_
  refine sy_goi (sy_runS C hP (m_X7_in l G hi _ _ _ _ _ hw) mw_X7_in w_874 w_873 (rest := []) rfl hl.1 rfl (Nat.le_of_ble_eq_true rfl) ⟨Nat.le_of_ble_eq_true rfl, Nat.le_of_ble_eq_true rfl⟩ dX7_isRoutine_8 ⟨Nat.zero_le _, Nat.zero_le _⟩) hS (fun _ h => h) (fun r2 T1 H locs hw hP hS => ?_)
  exact sy_zret C hr hlocks hP hS hw.1 hw.2 dX7_isRoutine_11
theorem mw_X7_isLooked : MW yX7_isLooked cX7_isLooked 5 (some .boolean) 1 := ⟨w_888, w_8, by decide +kernel⟩
def wb_X7_isLooked_15 (a1 : Int32) (v3_2 : Int32) (k4 : (Int32 × Int32) → St → Prop) (k15 : (Int32 × Int32) → St → Prop) (v2_12 : Int32) (v4_13 : Int32) (T14 : St) (post : Int32 → St → Prop) : Prop :=
 (16 ≤ v4_13 → k4 (v2_12, v3_2 + 1) T14) ∧ (¬ 16 ≤ v4_13 → vp_in v3_2 10 ∧ ((T14.1 133 v3_2.toNatClampNeg = 0 → k4 (v2_12, v3_2 + 1) T14) ∧ (¬ T14.1 133 v3_2.toNatClampNeg = 0 → (¬ v2_12 = 0 → k15 (1, v4_13 + 1) T14) ∧ (v2_12 = 0 → vp_in (((256 * v3_2) + (16 * a1)) + v4_13) 2560 ∧ ((T14.1 135 (((256 * v3_2) + (16 * a1)) + v4_13).toNatClampNeg = 0 → k15 (0, v4_13 + 1) T14) ∧ (¬ T14.1 135 (((256 * v3_2) + (16 * a1)) + v4_13).toNatClampNeg = 0 → k15 (1, v4_13 + 1) T14))))))
def wb_X7_isLooked_4 (a1 : Int32) (k4 : (Int32 × Int32) → St → Prop) (v2_1 : Int32) (v3_2 : Int32) (T3 : St) (post : Int32 → St → Prop) : Prop :=
 (T3.1 130 2 ≤ v3_2 → narrow .boolean (.int v2_1) = .int v2_1 ∧ post v2_1 T3) ∧ (¬ T3.1 130 2 ≤ v3_2 → LW (fun kl (vl : Int32 × Int32) Tl => wb_X7_isLooked_15 a1 v3_2 k4 kl vl.1 vl.2 Tl post) (v2_1, 0) T3)
def wp_X7_isLooked (a1 : Int32) (T : St) (post : Int32 → St → Prop) : Prop :=
  LW (fun kl (vl : Int32 × Int32) Tl => wb_X7_isLooked_4 a1 kl vl.1 vl.2 Tl post) (0, 0) T
set_option maxHeartbeats 4000000 in
set_option maxRecDepth 100000 in
theorem m_X7_isLooked (l : Launch) (G : Gm) (hi : Inj G) (a1 : Int32)  (T : St) (post : Int32 → St → Prop) (hw : wp_X7_isLooked a1 T post) : Mi l yX7_isLooked cX7_isLooked 5 (some .boolean) 0 0 G [.ref (G.2.2 130), .int a1] T post := by
  refine sy_head hi (by decide) (Nat.le_of_ble_eq_true rfl) (lv := [(0, .ref (G.2.2 130)), (1, .int a1)]) rfl ?_
  intro p e s m below meth c C hr hlocks hP hS ls hl
  have C : Cx p s m _ c cX7_isLooked 5 RX7 G := C
  obtain ⟨hx, hb, hml, hown, hg, hK, hN, -⟩ := id C
  unfold wp_X7_isLooked at hw
  refine lv_iconst (v := 0) hx hb dX7_isLooked_0 (by decide) ?_
  refine lv_istore_n (lv' := [(2, .int 0), (0, .ref (G.2.2 130)), (1, .int a1)]) hx hb dX7_isLooked_1 rfl hl (by decide) rfl (fun ls hl => ?_)
  refine lv_iconst (v := 0) hx hb dX7_isLooked_2 (by decide) ?_
  refine lv_istore_n (lv' := [(3, .int 0), (2, .int 0), (0, .ref (G.2.2 130)), (1, .int a1)]) hx hb dX7_isLooked_3 rfl hl (by decide) rfl (fun ls hl => ?_)
  obtain ⟨I5, u6, hI, hst7⟩ := hw
  have L10 : ∀ (n : Nat) (v2_1 : Int32) (v3_2 : Int32) (T3 : St), I5 (v2_1, v3_2) T3 → u6 (v2_1, v3_2) T3 < n → ∀ (H : Heap) (locs : List Loc), va_P G.1 sc_cl (wd G T3) H → va_S (SA G) s.heap H locs → ∀ ls : Array Slot, lv_has ls 5 [(3, .int v3_2), (2, .int v2_1), (0, .ref (G.2.2 130)), (1, .int a1)] → W p l e { frames := 0, cells := 0, slots := 0, locals := 0 } s m ([.ref (G.2.2 130), .int a1] : List Value).toArray below meth c H locs 0 0 (MQ below (va_Qi post (Sy G) (SA G)) ([.ref (G.2.2 130), .int a1] : List Value).toArray s 0 0 (SA G)) (F0 m 4 ls []) := by
    intro n
    induction n with
    | zero => intro _ _ _ _ h; exact absurd h (Nat.not_lt_zero _)
    | succ n ih8 =>
      intro v2_1 v3_2 T3 hI hlt9 H locs hP hS ls hl
      have hw := hst7 (v2_1, v3_2) T3 hI
      unfold wb_X7_isLooked_4 at hw
      refine lv_iload_n hx hb dX7_isLooked_4 rfl (lv_at hl 0 rfl) ?_
      refine lv_aload_n hx hb dX7_isLooked_5 rfl (lv_at hl 2 rfl) ?_
      refine gf_X7_75 C hP (o := 130) rfl dX7_isLooked_6 ?_
      refine lv_icmp_ge (tgt := 74) hx hb dX7_isLooked_9 (by decide) (fun hc11 => ?_) (fun hc11 => ?_)
      · have hw := hw.1 hc11
        refine lv_iload_n hx hb dX7_isLooked_74 rfl (lv_at hl 1 rfl) ?_
        exact sy_zret C hr hlocks hP hS hw.1 hw.2 dX7_isLooked_75
      · have hw := hw.2 hc11
        refine lv_iconst (v := 0) hx hb dX7_isLooked_12 (by decide) ?_
        refine lv_istore (lv' := [(4, .int 0), (3, .int v3_2), (2, .int v2_1), (0, .ref (G.2.2 130)), (1, .int a1)]) hx hb dX7_isLooked_13 hl (by decide) rfl (fun ls hl => ?_)
        obtain ⟨I16, u17, hI, hst18⟩ := hw
        have L21 : ∀ (n : Nat) (v2_12 : Int32) (v4_13 : Int32) (T14 : St), I16 (v2_12, v4_13) T14 → u17 (v2_12, v4_13) T14 < n → ∀ (H : Heap) (locs : List Loc), va_P G.1 sc_cl (wd G T14) H → va_S (SA G) s.heap H locs → ∀ ls : Array Slot, lv_has ls 5 [(4, .int v4_13), (3, .int v3_2), (2, .int v2_12), (0, .ref (G.2.2 130)), (1, .int a1)] → W p l e { frames := 0, cells := 0, slots := 0, locals := 0 } s m ([.ref (G.2.2 130), .int a1] : List Value).toArray below meth c H locs 0 0 (MQ below (va_Qi post (Sy G) (SA G)) ([.ref (G.2.2 130), .int a1] : List Value).toArray s 0 0 (SA G)) (F0 m 15 ls []) := by
          intro n
          induction n with
          | zero => intro _ _ _ _ h; exact absurd h (Nat.not_lt_zero _)
          | succ n ih19 =>
            intro v2_12 v4_13 T14 hI hlt20 H locs hP hS ls hl
            have hw := hst18 (v2_12, v4_13) T14 hI
            unfold wb_X7_isLooked_15 at hw
            refine lv_iload hx hb dX7_isLooked_15 (lv_at hl 0 rfl) ?_
            refine lv_bipush (v := 16) hx hb dX7_isLooked_17 (by decide) ?_
            refine lv_icmp_ge (tgt := 68) hx hb dX7_isLooked_19 (by decide) (fun hc22 => ?_) (fun hc22 => ?_)
            · have hw := hw.1 hc22
              refine lv_iinc (v := v3_2 + 1) (lv' := [(3, .int (v3_2 + 1)), (4, .int v4_13), (2, .int v2_12), (0, .ref (G.2.2 130)), (1, .int a1)]) hx hb dX7_isLooked_68 hl (k := 1) rfl rfl (by decide) rfl (fun ls hl => ?_)
              refine lv_goto (tgt := 4) hx hb dX7_isLooked_71 (by decide) ?_
              exact ih8 _ _ _ hw.1 (Nat.lt_of_lt_of_le hw.2 (Nat.le_of_lt_succ hlt9)) _ _ hP hS ls (lv_sub hl [0, 2, 3, 4] rfl)
            · have hw := hw.2 hc22
              refine lv_aload_n hx hb dX7_isLooked_22 rfl (lv_at hl 3 rfl) ?_
              refine gf_X7_16 C hP (o := 130) rfl dX7_isLooked_23 ?_
              refine lv_iload_n hx hb dX7_isLooked_26 rfl (lv_at hl 1 rfl) ?_
              obtain ⟨hn23, hw⟩ := hw
              refine sy_zald C hP (o := 133) rfl rfl hn23 dX7_isLooked_27 ?_
              refine lv_if_eq (tgt := 68) hx hb dX7_isLooked_28 (by decide) (fun hc24 => ?_) (fun hc24 => ?_)
              · have hw := hw.1 hc24
                refine lv_iinc (v := v3_2 + 1) (lv' := [(3, .int (v3_2 + 1)), (4, .int v4_13), (2, .int v2_12), (0, .ref (G.2.2 130)), (1, .int a1)]) hx hb dX7_isLooked_68 hl (k := 1) rfl rfl (by decide) rfl (fun ls hl => ?_)
                refine lv_goto (tgt := 4) hx hb dX7_isLooked_71 (by decide) ?_
                exact ih8 _ _ _ hw.1 (Nat.lt_of_lt_of_le hw.2 (Nat.le_of_lt_succ hlt9)) _ _ hP hS ls (lv_sub hl [0, 2, 3, 4] rfl)
              · have hw := hw.2 hc24
                refine lv_iload_n hx hb dX7_isLooked_31 rfl (lv_at hl 2 rfl) ?_
                refine lv_if_ne (tgt := 56) hx hb dX7_isLooked_32 (by decide) (fun hc25 => ?_) (fun hc25 => ?_)
                · have hw := hw.1 hc25
                  refine lv_iconst (v := 1) hx hb dX7_isLooked_56 (by decide) ?_
                  refine lv_goto (tgt := 61) hx hb dX7_isLooked_57 (by decide) ?_
                  refine lv_istore_n (lv' := [(2, .int 1), (4, .int v4_13), (3, .int v3_2), (0, .ref (G.2.2 130)), (1, .int a1)]) hx hb dX7_isLooked_61 rfl hl (by decide) rfl (fun ls hl => ?_)
                  refine lv_iinc (v := v4_13 + 1) (lv' := [(4, .int (v4_13 + 1)), (2, .int 1), (3, .int v3_2), (0, .ref (G.2.2 130)), (1, .int a1)]) hx hb dX7_isLooked_62 hl (k := 1) rfl rfl (by decide) rfl (fun ls hl => ?_)
                  refine lv_goto (tgt := 15) hx hb dX7_isLooked_65 (by decide) ?_
                  exact ih19 _ _ _ hw.1 (Nat.lt_of_lt_of_le hw.2 (Nat.le_of_lt_succ hlt20)) _ _ hP hS ls (lv_sub hl [0, 2, 1, 3, 4] rfl)
                · have hw := hw.2 hc25
                  refine lv_aload_n hx hb dX7_isLooked_35 rfl (lv_at hl 3 rfl) ?_
                  refine gf_X7_23 C hP (o := 130) rfl dX7_isLooked_36 ?_
                  refine lv_sipush (v := 256) hx hb dX7_isLooked_39 (by decide) ?_
                  refine lv_iload_n hx hb dX7_isLooked_42 rfl (lv_at hl 1 rfl) ?_
                  refine lv_imul hx hb dX7_isLooked_43 ?_
                  refine lv_bipush (v := 16) hx hb dX7_isLooked_44 (by decide) ?_
                  refine lv_iload_n hx hb dX7_isLooked_46 rfl (lv_at hl 4 rfl) ?_
                  refine lv_imul hx hb dX7_isLooked_47 ?_
                  refine lv_iadd hx hb dX7_isLooked_48 ?_
                  refine lv_iload hx hb dX7_isLooked_49 (lv_at hl 0 rfl) ?_
                  refine lv_iadd hx hb dX7_isLooked_51 ?_
                  obtain ⟨hn26, hw⟩ := hw
                  refine sy_zald C hP (o := 135) rfl rfl hn26 dX7_isLooked_52 ?_
                  refine lv_if_eq (tgt := 60) hx hb dX7_isLooked_53 (by decide) (fun hc27 => ?_) (fun hc27 => ?_)
                  · have hw := hw.1 hc27
                    refine lv_iconst (v := 0) hx hb dX7_isLooked_60 (by decide) ?_
                    refine lv_istore_n (lv' := [(2, .int 0), (4, .int v4_13), (3, .int v3_2), (0, .ref (G.2.2 130)), (1, .int a1)]) hx hb dX7_isLooked_61 rfl hl (by decide) rfl (fun ls hl => ?_)
                    refine lv_iinc (v := v4_13 + 1) (lv' := [(4, .int (v4_13 + 1)), (2, .int 0), (3, .int v3_2), (0, .ref (G.2.2 130)), (1, .int a1)]) hx hb dX7_isLooked_62 hl (k := 1) rfl rfl (by decide) rfl (fun ls hl => ?_)
                    refine lv_goto (tgt := 15) hx hb dX7_isLooked_65 (by decide) ?_
                    exact ih19 _ _ _ hw.1 (Nat.lt_of_lt_of_le hw.2 (Nat.le_of_lt_succ hlt20)) _ _ hP hS ls (lv_sub hl [0, 2, 1, 3, 4] rfl)
                  · have hw := hw.2 hc27
                    refine lv_iconst (v := 1) hx hb dX7_isLooked_56 (by decide) ?_
                    refine lv_goto (tgt := 61) hx hb dX7_isLooked_57 (by decide) ?_
                    refine lv_istore_n (lv' := [(2, .int 1), (4, .int v4_13), (3, .int v3_2), (0, .ref (G.2.2 130)), (1, .int a1)]) hx hb dX7_isLooked_61 rfl hl (by decide) rfl (fun ls hl => ?_)
                    refine lv_iinc (v := v4_13 + 1) (lv' := [(4, .int (v4_13 + 1)), (2, .int 1), (3, .int v3_2), (0, .ref (G.2.2 130)), (1, .int a1)]) hx hb dX7_isLooked_62 hl (k := 1) rfl rfl (by decide) rfl (fun ls hl => ?_)
                    refine lv_goto (tgt := 15) hx hb dX7_isLooked_65 (by decide) ?_
                    exact ih19 _ _ _ hw.1 (Nat.lt_of_lt_of_le hw.2 (Nat.le_of_lt_succ hlt20)) _ _ hP hS ls (lv_sub hl [0, 2, 1, 3, 4] rfl)
        exact L21 _ _ _ _ hI (Nat.lt_succ_self _) _ _ hP hS ls (lv_sub hl [0, 1, 2, 3, 4] rfl)
  exact L10 _ _ _ _ hI (Nat.lt_succ_self _) _ _ hP hS ls (lv_sub hl [0, 1, 2, 3] rfl)
theorem mw_X7_drop : MW yX7_drop cX7_drop 3 none 1 := ⟨w_892, w_8, by decide +kernel⟩
def wb_X7_drop_6 (a1 : Int32) (k3 : (Int32) → St → Prop) (v2_1 : Int32) (T2 : St) (post : St → Prop) : Prop :=
 ((256 * a1) + 256 ≤ v2_1 → vp_in a1 10 ∧ (vp_in a1 10 ∧ (vp_in a1 10 ∧ (vp_in a1 10 ∧ (∀ T15 : St, T15 = sv (sv (sv T2 138 (a1.toNatClampNeg) (vp_nar .boolean 1)) 133 (a1.toNatClampNeg) (vp_nar .boolean 0)) 137 (a1.toNatClampNeg) (((sv (sv T2 138 (a1.toNatClampNeg) (vp_nar .boolean 1)) 133 (a1.toNatClampNeg) (vp_nar .boolean 0)).1 137 a1.toNatClampNeg) + 1) → (post (sv T15 130 15 ((T15.1 130 15) + 1)))))))) ∧ (¬ (256 * a1) + 256 ≤ v2_1 → vp_in v2_1 2560 ∧ (vp_in v2_1 2560 ∧ (vp_in v2_1 2560 ∧ (vp_in v2_1 2560 ∧ (∀ T20 : St, T20 = sv (sv T2 139 (v2_1.toNatClampNeg) (vp_nar .boolean (T2.1 134 v2_1.toNatClampNeg))) 140 (v2_1.toNatClampNeg) (vp_nar .boolean ((sv T2 139 (v2_1.toNatClampNeg) (vp_nar .boolean (T2.1 134 v2_1.toNatClampNeg))).1 135 v2_1.toNatClampNeg)) → (vp_in v2_1 2560 ∧ (vp_in v2_1 2560 ∧ (k3 (v2_1 + 1) (sv T20 141 (v2_1.toNatClampNeg) (T20.1 136 v2_1.toNatClampNeg))))))))))
def wp_X7_drop (a1 : Int32) (T : St) (post : St → Prop) : Prop :=
  LW (fun kl (vl : Int32) Tl => wb_X7_drop_6 a1 kl vl Tl post) (256 * a1) T
set_option maxHeartbeats 4000000 in
set_option maxRecDepth 100000 in
theorem m_X7_drop (l : Launch) (G : Gm) (hi : Inj G) (a1 : Int32)  (T : St) (post : St → Prop) (hw : wp_X7_drop a1 T post) : Mv l yX7_drop cX7_drop 3 none 0 0 G [.ref (G.2.2 130), .int a1] T post := by
  refine sy_head hi (by decide) (Nat.le_of_ble_eq_true rfl) (lv := [(0, .ref (G.2.2 130)), (1, .int a1)]) rfl ?_
  intro p e s m below meth c C hr hlocks hP hS ls hl
  have C : Cx p s m _ c cX7_drop 3 RX7 G := C
  obtain ⟨hx, hb, hml, hown, hg, hK, hN, -⟩ := id C
  unfold wp_X7_drop at hw
  refine lv_sipush (v := 256) hx hb dX7_drop_0 (by decide) ?_
  refine lv_iload_n hx hb dX7_drop_3 rfl (lv_at hl 1 rfl) ?_
  refine lv_imul hx hb dX7_drop_4 ?_
  refine lv_istore_n (lv' := [(2, .int (256 * a1)), (0, .ref (G.2.2 130)), (1, .int a1)]) hx hb dX7_drop_5 rfl hl (by decide) rfl (fun ls hl => ?_)
  obtain ⟨I4, u5, hI, hst6⟩ := hw
  have L9 : ∀ (n : Nat) (v2_1 : Int32) (T2 : St), I4 v2_1 T2 → u5 v2_1 T2 < n → ∀ (H : Heap) (locs : List Loc), va_P G.1 sc_cl (wd G T2) H → va_S (SA G) s.heap H locs → ∀ ls : Array Slot, lv_has ls 3 [(2, .int v2_1), (0, .ref (G.2.2 130)), (1, .int a1)] → W p l e { frames := 0, cells := 0, slots := 0, locals := 0 } s m ([.ref (G.2.2 130), .int a1] : List Value).toArray below meth c H locs 0 0 (MQ below (va_Qv post (Sy G) (SA G)) ([.ref (G.2.2 130), .int a1] : List Value).toArray s 0 0 (SA G)) (F0 m 6 ls []) := by
    intro n
    induction n with
    | zero => intro _ _ _ h; exact absurd h (Nat.not_lt_zero _)
    | succ n ih7 =>
      intro v2_1 T2 hI hlt8 H locs hP hS ls hl
      have hw := hst6 v2_1 T2 hI
      unfold wb_X7_drop_6 at hw
      refine lv_iload_n hx hb dX7_drop_6 rfl (lv_at hl 0 rfl) ?_
      refine lv_sipush (v := 256) hx hb dX7_drop_7 (by decide) ?_
      refine lv_iload_n hx hb dX7_drop_10 rfl (lv_at hl 2 rfl) ?_
      refine lv_imul hx hb dX7_drop_11 ?_
      refine lv_sipush (v := 256) hx hb dX7_drop_12 (by decide) ?_
      refine lv_iadd hx hb dX7_drop_15 ?_
      refine lv_icmp_ge (tgt := 61) hx hb dX7_drop_16 (by decide) (fun hc10 => ?_) (fun hc10 => ?_)
      · have hw := hw.1 hc10
        refine lv_aload_n hx hb dX7_drop_61 rfl (lv_at hl 1 rfl) ?_
        refine gf_X7_32 C hP (o := 130) rfl dX7_drop_62 ?_
        refine lv_iload_n hx hb dX7_drop_65 rfl (lv_at hl 2 rfl) ?_
        refine lv_iconst (v := 1) hx hb dX7_drop_66 (by decide) ?_
        obtain ⟨hn11, hw⟩ := hw
        refine sy_zast C hP hS (fun _ h => h) (o := 138) rfl rfl hn11 dX7_drop_67 (fun H locs hP hS => ?_)
        refine lv_aload_n hx hb dX7_drop_68 rfl (lv_at hl 1 rfl) ?_
        refine gf_X7_16 C hP (o := 130) rfl dX7_drop_69 ?_
        refine lv_iload_n hx hb dX7_drop_72 rfl (lv_at hl 2 rfl) ?_
        refine lv_iconst (v := 0) hx hb dX7_drop_73 (by decide) ?_
        obtain ⟨hn12, hw⟩ := hw
        refine sy_zast C hP hS (fun _ h => h) (o := 133) rfl rfl hn12 dX7_drop_74 (fun H locs hP hS => ?_)
        refine lv_aload_n hx hb dX7_drop_75 rfl (lv_at hl 1 rfl) ?_
        refine gf_X7_29 C hP (o := 130) rfl dX7_drop_76 ?_
        refine lv_iload_n hx hb dX7_drop_79 rfl (lv_at hl 2 rfl) ?_
        refine lv_dup2_11 hx hb dX7_drop_80 rfl rfl ?_
        obtain ⟨hn13, hw⟩ := hw
        refine sy_iald C hP (o := 137) rfl rfl hn13 dX7_drop_81 ?_
        refine lv_iconst (v := 1) hx hb dX7_drop_82 (by decide) ?_
        refine lv_iadd hx hb dX7_drop_83 ?_
        obtain ⟨hn14, hw⟩ := hw
        refine sy_iast C hP hS (fun _ h => h) (o := 137) rfl rfl hn14 dX7_drop_84 (fun H locs hP hS => ?_)
        obtain ⟨T15, eT15, hP⟩ := nameT (P := fun T => va_P G.1 sc_cl (wd G T) H) hP
        have hw := hw T15 eT15
        refine lv_aload_n hx hb dX7_drop_85 rfl (lv_at hl 1 rfl) ?_
        refine lv_dup hx hb dX7_drop_86 rfl ?_
        refine gf_X7_82 C hP (o := 130) rfl dX7_drop_87 ?_
        refine lv_iconst (v := 1) hx hb dX7_drop_90 (by decide) ?_
        refine lv_iadd hx hb dX7_drop_91 ?_
        refine pf_X7_82 C hP hS (fun _ h => h) (o := 130) rfl dX7_drop_92 (fun H locs hP hS => ?_)
        exact sy_vret C hr hlocks hP hS hw dX7_drop_95
      · have hw := hw.2 hc10
        refine lv_aload_n hx hb dX7_drop_19 rfl (lv_at hl 1 rfl) ?_
        refine gf_X7_35 C hP (o := 130) rfl dX7_drop_20 ?_
        refine lv_iload_n hx hb dX7_drop_23 rfl (lv_at hl 0 rfl) ?_
        refine lv_aload_n hx hb dX7_drop_24 rfl (lv_at hl 1 rfl) ?_
        refine gf_X7_20 C hP (o := 130) rfl dX7_drop_25 ?_
        refine lv_iload_n hx hb dX7_drop_28 rfl (lv_at hl 0 rfl) ?_
        obtain ⟨hn16, hw⟩ := hw
        refine sy_zald C hP (o := 134) rfl rfl hn16 dX7_drop_29 ?_
        obtain ⟨hn17, hw⟩ := hw
        refine sy_zast C hP hS (fun _ h => h) (o := 139) rfl rfl hn17 dX7_drop_30 (fun H locs hP hS => ?_)
        refine lv_aload_n hx hb dX7_drop_31 rfl (lv_at hl 1 rfl) ?_
        refine gf_X7_38 C hP (o := 130) rfl dX7_drop_32 ?_
        refine lv_iload_n hx hb dX7_drop_35 rfl (lv_at hl 0 rfl) ?_
        refine lv_aload_n hx hb dX7_drop_36 rfl (lv_at hl 1 rfl) ?_
        refine gf_X7_23 C hP (o := 130) rfl dX7_drop_37 ?_
        refine lv_iload_n hx hb dX7_drop_40 rfl (lv_at hl 0 rfl) ?_
        obtain ⟨hn18, hw⟩ := hw
        refine sy_zald C hP (o := 135) rfl rfl hn18 dX7_drop_41 ?_
        obtain ⟨hn19, hw⟩ := hw
        refine sy_zast C hP hS (fun _ h => h) (o := 140) rfl rfl hn19 dX7_drop_42 (fun H locs hP hS => ?_)
        obtain ⟨T20, eT20, hP⟩ := nameT (P := fun T => va_P G.1 sc_cl (wd G T) H) hP
        have hw := hw T20 eT20
        refine lv_aload_n hx hb dX7_drop_43 rfl (lv_at hl 1 rfl) ?_
        refine gf_X7_41 C hP (o := 130) rfl dX7_drop_44 ?_
        refine lv_iload_n hx hb dX7_drop_47 rfl (lv_at hl 0 rfl) ?_
        refine lv_aload_n hx hb dX7_drop_48 rfl (lv_at hl 1 rfl) ?_
        refine gf_X7_26 C hP (o := 130) rfl dX7_drop_49 ?_
        refine lv_iload_n hx hb dX7_drop_52 rfl (lv_at hl 0 rfl) ?_
        obtain ⟨hn21, hw⟩ := hw
        refine sy_iald C hP (o := 136) rfl rfl hn21 dX7_drop_53 ?_
        obtain ⟨hn22, hw⟩ := hw
        refine sy_iast C hP hS (fun _ h => h) (o := 141) rfl rfl hn22 dX7_drop_54 (fun H locs hP hS => ?_)
        refine lv_iinc (v := v2_1 + 1) (lv' := [(2, .int (v2_1 + 1)), (0, .ref (G.2.2 130)), (1, .int a1)]) hx hb dX7_drop_55 hl (k := 0) rfl rfl (by decide) rfl (fun ls hl => ?_)
        refine lv_goto (tgt := 6) hx hb dX7_drop_58 (by decide) ?_
        exact ih7 _ _ hw.1 (Nat.lt_of_lt_of_le hw.2 (Nat.le_of_lt_succ hlt8)) _ _ hP hS ls (lv_sub hl [0, 1, 2] rfl)
  exact L9 _ _ _ hI (Nat.lt_succ_self _) _ _ hP hS ls (lv_sub hl [0, 1, 2] rfl)
theorem mw_X7_becomes : MW yX7_becomes cX7_becomes 5 (some .int) 2 := ⟨w_884, w_8, by decide +kernel⟩
def wb_X7_becomes_49 (a1 : Int32) (k13 : (Int32 × Int32) → St → Prop) (v3_10 : Int32) (v4_11 : Int32) (T12 : St) (post : Int32 → St → Prop) : Prop :=
 (T12.1 130 2 ≤ v4_11 → post v3_10 T12) ∧ (¬ T12.1 130 2 ≤ v4_11 → vp_in v4_11 10 ∧ ((T12.1 133 v4_11.toNatClampNeg = 0 → k13 (v3_10, v4_11 + 1) T12) ∧ (¬ T12.1 133 v4_11.toNatClampNeg = 0 → vp_in ((256 * v4_11) + a1) 2560 ∧ ((T12.1 135 ((256 * v4_11) + a1).toNatClampNeg = 0 → k13 (v3_10, v4_11 + 1) T12) ∧ (¬ T12.1 135 ((256 * v4_11) + a1).toNatClampNeg = 0 → wp_X7_drop v4_11 T12 (fun T25 => k13 (v3_10 + 1, v4_11 + 1) T25))))))
def wj_X7_becomes_33 (a1 : Int32) (a2 : Int32)  (s6 : Int32) (s7 : Int32) (T8 : St) (post : Int32 → St → Prop) : Prop :=
  vp_in a1 256 ∧ (LW (fun kl (vl : Int32 × Int32) Tl => wb_X7_becomes_49 a1 kl vl.1 vl.2 Tl post) (0, 0) (sv (sv T8 130 13 (s7 + s6)) 131 (a1.toNatClampNeg) a2))
def wp_X7_becomes (a1 : Int32) (a2 : Int32) (T : St) (post : Int32 → St → Prop) : Prop :=
  vp_in a1 256 ∧ ((¬ T.1 131 a1.toNatClampNeg = a2 → wp_X7_isLooked (a1 / 16) T (fun r4 T3 => (r4 = 0 → wj_X7_becomes_33 a1 a2 0 (T.1 130 13) T3 post) ∧ (¬ r4 = 0 → wj_X7_becomes_33 a1 a2 1 (T.1 130 13) T3 post))) ∧ (T.1 131 a1.toNatClampNeg = a2 → post (-1) T))
set_option maxHeartbeats 4000000 in
set_option maxRecDepth 100000 in
theorem m_X7_becomes (l : Launch) (G : Gm) (hi : Inj G) (a1 : Int32) (a2 : Int32)  (T : St) (post : Int32 → St → Prop) (hw : wp_X7_becomes a1 a2 T post) : Mi l yX7_becomes cX7_becomes 5 (some .int) 1 24 G [.ref (G.2.2 130), .int a1, .int a2] T post := by
  refine sy_head hi (by decide) (Nat.le_of_ble_eq_true rfl) (lv := [(0, .ref (G.2.2 130)), (1, .int a1), (2, .int a2)]) rfl ?_
  intro p e s m below meth c C hr hlocks hP hS ls hl
  have C : Cx p s m _ c cX7_becomes 5 RX7 G := C
  obtain ⟨hx, hb, hml, hown, hg, hK, hN, -⟩ := id C
  unfold wp_X7_becomes at hw
  have J27 : ∀ (s6 : Int32) (s7 : Int32) (T8 : St), wj_X7_becomes_33 a1 a2  s6 s7 T8 post → ∀ (H : Heap) (locs : List Loc), va_P G.1 sc_cl (wd G T8) H → va_S (SA G) s.heap H locs → ∀ ls : Array Slot, lv_has ls 5 [(0, .ref (G.2.2 130)), (1, .int a1), (2, .int a2)] → W p l e { frames := 1, cells := 0, slots := 0, locals := 24 } s m ([.ref (G.2.2 130), .int a1, .int a2] : List Value).toArray below meth c H locs 0 0 (MQ below (va_Qi post (Sy G) (SA G)) ([.ref (G.2.2 130), .int a1, .int a2] : List Value).toArray s 0 0 (SA G)) (F0 m 33 ls [.int s6, .int s7, .ref (G.2.2 130)]) := by
    intro s6 s7 T8  hw H locs hP hS ls hl
    unfold wj_X7_becomes_33 at hw
    refine lv_iadd hx hb dX7_becomes_33 ?_
    refine pf_X7_85 C hP hS (fun _ h => h) (o := 130) rfl dX7_becomes_34 (fun H locs hP hS => ?_)
    refine lv_aload_n hx hb dX7_becomes_37 rfl (lv_at hl 0 rfl) ?_
    refine gf_X7_7 C hP (o := 130) rfl dX7_becomes_38 ?_
    refine lv_iload_n hx hb dX7_becomes_41 rfl (lv_at hl 1 rfl) ?_
    refine lv_iload_n hx hb dX7_becomes_42 rfl (lv_at hl 2 rfl) ?_
    obtain ⟨hn9, hw⟩ := hw
    refine sy_iast C hP hS (fun _ h => h) (o := 131) rfl rfl hn9 dX7_becomes_43 (fun H locs hP hS => ?_)
    refine lv_iconst (v := 0) hx hb dX7_becomes_44 (by decide) ?_
    refine lv_istore_n (lv' := [(3, .int 0), (0, .ref (G.2.2 130)), (1, .int a1), (2, .int a2)]) hx hb dX7_becomes_45 rfl hl (by decide) rfl (fun ls hl => ?_)
    refine lv_iconst (v := 0) hx hb dX7_becomes_46 (by decide) ?_
    refine lv_istore (lv' := [(4, .int 0), (3, .int 0), (0, .ref (G.2.2 130)), (1, .int a1), (2, .int a2)]) hx hb dX7_becomes_47 hl (by decide) rfl (fun ls hl => ?_)
    obtain ⟨I14, u15, hI, hst16⟩ := hw
    have L19 : ∀ (n : Nat) (v3_10 : Int32) (v4_11 : Int32) (T12 : St), I14 (v3_10, v4_11) T12 → u15 (v3_10, v4_11) T12 < n → ∀ (H : Heap) (locs : List Loc), va_P G.1 sc_cl (wd G T12) H → va_S (SA G) s.heap H locs → ∀ ls : Array Slot, lv_has ls 5 [(4, .int v4_11), (3, .int v3_10), (0, .ref (G.2.2 130)), (1, .int a1)] → W p l e { frames := 1, cells := 0, slots := 0, locals := 24 } s m ([.ref (G.2.2 130), .int a1, .int a2] : List Value).toArray below meth c H locs 0 0 (MQ below (va_Qi post (Sy G) (SA G)) ([.ref (G.2.2 130), .int a1, .int a2] : List Value).toArray s 0 0 (SA G)) (F0 m 49 ls []) := by
      intro n
      induction n with
      | zero => intro _ _ _ _ h; exact absurd h (Nat.not_lt_zero _)
      | succ n ih17 =>
        intro v3_10 v4_11 T12 hI hlt18 H locs hP hS ls hl
        have hw := hst16 (v3_10, v4_11) T12 hI
        unfold wb_X7_becomes_49 at hw
        refine lv_iload hx hb dX7_becomes_49 (lv_at hl 0 rfl) ?_
        refine lv_aload_n hx hb dX7_becomes_51 rfl (lv_at hl 2 rfl) ?_
        refine gf_X7_75 C hP (o := 130) rfl dX7_becomes_52 ?_
        refine lv_icmp_ge (tgt := 99) hx hb dX7_becomes_55 (by decide) (fun hc20 => ?_) (fun hc20 => ?_)
        · have hw := hw.1 hc20
          refine lv_iload_n hx hb dX7_becomes_99 rfl (lv_at hl 1 rfl) ?_
          exact sy_iret C hr hlocks hP hS hw dX7_becomes_100
        · have hw := hw.2 hc20
          refine lv_aload_n hx hb dX7_becomes_58 rfl (lv_at hl 2 rfl) ?_
          refine gf_X7_16 C hP (o := 130) rfl dX7_becomes_59 ?_
          refine lv_iload hx hb dX7_becomes_62 (lv_at hl 0 rfl) ?_
          obtain ⟨hn21, hw⟩ := hw
          refine sy_zald C hP (o := 133) rfl rfl hn21 dX7_becomes_64 ?_
          refine lv_if_eq (tgt := 93) hx hb dX7_becomes_65 (by decide) (fun hc22 => ?_) (fun hc22 => ?_)
          · have hw := hw.1 hc22
            refine lv_iinc (v := v4_11 + 1) (lv' := [(4, .int (v4_11 + 1)), (3, .int v3_10), (0, .ref (G.2.2 130)), (1, .int a1)]) hx hb dX7_becomes_93 hl (k := 0) rfl rfl (by decide) rfl (fun ls hl => ?_)
            refine lv_goto (tgt := 49) hx hb dX7_becomes_96 (by decide) ?_
            exact ih17 _ _ _ hw.1 (Nat.lt_of_lt_of_le hw.2 (Nat.le_of_lt_succ hlt18)) _ _ hP hS ls (lv_sub hl [0, 1, 2, 3] rfl)
          · have hw := hw.2 hc22
            refine lv_aload_n hx hb dX7_becomes_68 rfl (lv_at hl 2 rfl) ?_
            refine gf_X7_23 C hP (o := 130) rfl dX7_becomes_69 ?_
            refine lv_sipush (v := 256) hx hb dX7_becomes_72 (by decide) ?_
            refine lv_iload hx hb dX7_becomes_75 (lv_at hl 0 rfl) ?_
            refine lv_imul hx hb dX7_becomes_77 ?_
            refine lv_iload_n hx hb dX7_becomes_78 rfl (lv_at hl 3 rfl) ?_
            refine lv_iadd hx hb dX7_becomes_79 ?_
            obtain ⟨hn23, hw⟩ := hw
            refine sy_zald C hP (o := 135) rfl rfl hn23 dX7_becomes_80 ?_
            refine lv_if_eq (tgt := 93) hx hb dX7_becomes_81 (by decide) (fun hc24 => ?_) (fun hc24 => ?_)
            · have hw := hw.1 hc24
              refine lv_iinc (v := v4_11 + 1) (lv' := [(4, .int (v4_11 + 1)), (3, .int v3_10), (0, .ref (G.2.2 130)), (1, .int a1)]) hx hb dX7_becomes_93 hl (k := 0) rfl rfl (by decide) rfl (fun ls hl => ?_)
              refine lv_goto (tgt := 49) hx hb dX7_becomes_96 (by decide) ?_
              exact ih17 _ _ _ hw.1 (Nat.lt_of_lt_of_le hw.2 (Nat.le_of_lt_succ hlt18)) _ _ hP hS ls (lv_sub hl [0, 1, 2, 3] rfl)
            · have hw := hw.2 hc24
              refine lv_aload_n hx hb dX7_becomes_84 rfl (lv_at hl 2 rfl) ?_
              refine lv_iload hx hb dX7_becomes_85 (lv_at hl 0 rfl) ?_
              refine sy_gov (sy_runV C hP rfl rfl (m_X7_drop l G hi _ _ _ hw) mw_X7_drop w_891 ws_28 w_889 (rest := []) rfl hl.1 rfl (Nat.le_of_ble_eq_true rfl) ⟨Nat.le_of_ble_eq_true rfl, Nat.le_of_ble_eq_true rfl⟩ dX7_becomes_87 ⟨Nat.zero_le _, Nat.zero_le _⟩) hS (fun _ h => h) (fun T25 H locs hw hP hS => ?_)
              refine lv_iinc (v := v3_10 + 1) (lv' := [(3, .int (v3_10 + 1)), (4, .int v4_11), (0, .ref (G.2.2 130)), (1, .int a1)]) hx hb dX7_becomes_90 hl (k := 1) rfl rfl (by decide) rfl (fun ls hl => ?_)
              refine lv_iinc (v := v4_11 + 1) (lv' := [(4, .int (v4_11 + 1)), (3, .int (v3_10 + 1)), (0, .ref (G.2.2 130)), (1, .int a1)]) hx hb dX7_becomes_93 hl (k := 1) rfl rfl (by decide) rfl (fun ls hl => ?_)
              refine lv_goto (tgt := 49) hx hb dX7_becomes_96 (by decide) ?_
              exact ih17 _ _ _ hw.1 (Nat.lt_of_lt_of_le hw.2 (Nat.le_of_lt_succ hlt18)) _ _ hP hS ls (lv_sub hl [0, 1, 2, 3] rfl)
    exact L19 _ _ _ _ hI (Nat.lt_succ_self _) _ _ hP hS ls (lv_sub hl [0, 1, 2, 3] rfl)
  refine lv_aload_n hx hb dX7_becomes_0 rfl (lv_at hl 0 rfl) ?_
  refine gf_X7_7 C hP (o := 130) rfl dX7_becomes_1 ?_
  refine lv_iload_n hx hb dX7_becomes_4 rfl (lv_at hl 1 rfl) ?_
  obtain ⟨hn1, hw⟩ := hw
  refine sy_iald C hP (o := 131) rfl rfl hn1 dX7_becomes_5 ?_
  refine lv_iload_n hx hb dX7_becomes_6 rfl (lv_at hl 2 rfl) ?_
  refine lv_icmp_ne (tgt := 12) hx hb dX7_becomes_7 (by decide) (fun hc2 => ?_) (fun hc2 => ?_)
  · have hw := hw.1 hc2
    refine lv_aload_n hx hb dX7_becomes_12 rfl (lv_at hl 0 rfl) ?_
    refine lv_dup hx hb dX7_becomes_13 rfl ?_
    refine gf_X7_85 C hP (o := 130) rfl dX7_becomes_14 ?_
    refine lv_aload_n hx hb dX7_becomes_17 rfl (lv_at hl 0 rfl) ?_
    refine lv_iload_n hx hb dX7_becomes_18 rfl (lv_at hl 1 rfl) ?_
    refine lv_bipush (v := 16) hx hb dX7_becomes_19 (by decide) ?_
    refine lv_idiv hx hb dX7_becomes_21 (by decide) ?_
    refine sy_goi (sy_runV C hP rfl rfl (m_X7_isLooked l G hi _ _ _ hw) mw_X7_isLooked w_887 ws_27 w_885 (rest := [.int (T.1 130 13), .ref (G.2.2 130)]) rfl hl.1 rfl (Nat.le_of_ble_eq_true rfl) ⟨Nat.le_of_ble_eq_true rfl, Nat.le_of_ble_eq_true rfl⟩ dX7_becomes_22 ⟨Nat.zero_le _, Nat.zero_le _⟩) hS (fun _ h => h) (fun r4 T3 H locs hw hP hS => ?_)
    refine lv_if_eq (tgt := 32) hx hb dX7_becomes_25 (by decide) (fun hc5 => ?_) (fun hc5 => ?_)
    · have hw := hw.1 hc5
      refine lv_iconst (v := 0) hx hb dX7_becomes_32 (by decide) ?_
      exact J27 _ _ _  hw _ _ hP hS ls (lv_sub hl [0, 1, 2] rfl)
    · have hw := hw.2 hc5
      refine lv_iconst (v := 1) hx hb dX7_becomes_28 (by decide) ?_
      refine lv_goto (tgt := 33) hx hb dX7_becomes_29 (by decide) ?_
      exact J27 _ _ _  hw _ _ hP hS ls (lv_sub hl [0, 1, 2] rfl)
  · have hw := hw.2 hc2
    refine lv_iconst (v := (-1)) hx hb dX7_becomes_10 (by decide) ?_
    exact sy_iret C hr hlocks hP hS hw dX7_becomes_11
theorem mw_X7_note : MW yX7_note cX7_note 2 none 0 := ⟨w_879, w_8, by decide +kernel⟩
def wb_X7_note_2  (k3 : (Int32) → St → Prop) (v1_1 : Int32) (T2 : St) (post : St → Prop) : Prop :=
 (256 ≤ v1_1 → post T2) ∧ (¬ 256 ≤ v1_1 → vp_in v1_1 256 ∧ (vp_in v1_1 256 ∧ (k3 (v1_1 + 1) (sv T2 144 (v1_1.toNatClampNeg) (T2.1 131 v1_1.toNatClampNeg)))))
def wp_X7_note (T : St) (post : St → Prop) : Prop :=
  LW (fun kl (vl : Int32) Tl => wb_X7_note_2 kl vl Tl post) 0 T
set_option maxHeartbeats 4000000 in
set_option maxRecDepth 100000 in
theorem m_X7_note (l : Launch) (G : Gm) (hi : Inj G)   (T : St) (post : St → Prop) (hw : wp_X7_note T post) : Mv l yX7_note cX7_note 2 none 0 0 G [.ref (G.2.2 130)] T post := by
  refine sy_head hi (by decide) (Nat.le_of_ble_eq_true rfl) (lv := [(0, .ref (G.2.2 130))]) rfl ?_
  intro p e s m below meth c C hr hlocks hP hS ls hl
  have C : Cx p s m _ c cX7_note 2 RX7 G := C
  obtain ⟨hx, hb, hml, hown, hg, hK, hN, -⟩ := id C
  unfold wp_X7_note at hw
  refine lv_iconst (v := 0) hx hb dX7_note_0 (by decide) ?_
  refine lv_istore_n (lv' := [(1, .int 0), (0, .ref (G.2.2 130))]) hx hb dX7_note_1 rfl hl (by decide) rfl (fun ls hl => ?_)
  obtain ⟨I4, u5, hI, hst6⟩ := hw
  have L9 : ∀ (n : Nat) (v1_1 : Int32) (T2 : St), I4 v1_1 T2 → u5 v1_1 T2 < n → ∀ (H : Heap) (locs : List Loc), va_P G.1 sc_cl (wd G T2) H → va_S (SA G) s.heap H locs → ∀ ls : Array Slot, lv_has ls 2 [(1, .int v1_1), (0, .ref (G.2.2 130))] → W p l e { frames := 0, cells := 0, slots := 0, locals := 0 } s m ([.ref (G.2.2 130)] : List Value).toArray below meth c H locs 0 0 (MQ below (va_Qv post (Sy G) (SA G)) ([.ref (G.2.2 130)] : List Value).toArray s 0 0 (SA G)) (F0 m 2 ls []) := by
    intro n
    induction n with
    | zero => intro _ _ _ h; exact absurd h (Nat.not_lt_zero _)
    | succ n ih7 =>
      intro v1_1 T2 hI hlt8 H locs hP hS ls hl
      have hw := hst6 v1_1 T2 hI
      unfold wb_X7_note_2 at hw
      refine lv_iload_n hx hb dX7_note_2 rfl (lv_at hl 0 rfl) ?_
      refine lv_sipush (v := 256) hx hb dX7_note_3 (by decide) ?_
      refine lv_icmp_ge (tgt := 27) hx hb dX7_note_6 (by decide) (fun hc10 => ?_) (fun hc10 => ?_)
      · have hw := hw.1 hc10
        exact sy_vret C hr hlocks hP hS hw dX7_note_27
      · have hw := hw.2 hc10
        refine lv_aload_n hx hb dX7_note_9 rfl (lv_at hl 1 rfl) ?_
        refine gf_X7_50 C hP (o := 130) rfl dX7_note_10 ?_
        refine lv_iload_n hx hb dX7_note_13 rfl (lv_at hl 0 rfl) ?_
        refine lv_aload_n hx hb dX7_note_14 rfl (lv_at hl 1 rfl) ?_
        refine gf_X7_7 C hP (o := 130) rfl dX7_note_15 ?_
        refine lv_iload_n hx hb dX7_note_18 rfl (lv_at hl 0 rfl) ?_
        obtain ⟨hn11, hw⟩ := hw
        refine sy_iald C hP (o := 131) rfl rfl hn11 dX7_note_19 ?_
        obtain ⟨hn12, hw⟩ := hw
        refine sy_iast C hP hS (fun _ h => h) (o := 144) rfl rfl hn12 dX7_note_20 (fun H locs hP hS => ?_)
        refine lv_iinc (v := v1_1 + 1) (lv' := [(1, .int (v1_1 + 1)), (0, .ref (G.2.2 130))]) hx hb dX7_note_21 hl (k := 0) rfl rfl (by decide) rfl (fun ls hl => ?_)
        refine lv_goto (tgt := 2) hx hb dX7_note_24 (by decide) ?_
        exact ih7 _ _ hw.1 (Nat.lt_of_lt_of_le hw.2 (Nat.le_of_lt_succ hlt8)) _ _ hP hS ls (lv_sub hl [0, 1] rfl)
  exact L9 _ _ _ hI (Nat.lt_succ_self _) _ _ hP hS ls (lv_sub hl [0, 1] rfl)
theorem mw_X7_keep : MW yX7_keep cX7_keep 2 none 0 := ⟨w_896, w_8, by decide +kernel⟩
def wb_X7_keep_52  (k5 : (Int32) → St → Prop) (v1_3 : Int32) (T4 : St) (post : St → Prop) : Prop :=
 (256 ≤ v1_3 → post (sv T4 130 21 ((T4.1 130 21) + 1))) ∧ (¬ 256 ≤ v1_3 → vp_in v1_3 256 ∧ (vp_in ((256 * (T4.1 130 21)) + v1_3) 2048 ∧ (k5 (v1_3 + 1) (sv T4 143 (((256 * (T4.1 130 21)) + v1_3).toNatClampNeg) (T4.1 144 v1_3.toNatClampNeg)))))
def wj_X7_keep_50    (T2 : St) (post : St → Prop) : Prop :=
  LW (fun kl (vl : Int32) Tl => wb_X7_keep_52 kl vl Tl post) 0 T2
def wb_X7_keep_11  (k18 : (Int32) → St → Prop) (v1_16 : Int32) (T17 : St) (post : St → Prop) : Prop :=
 (1792 ≤ v1_16 → wj_X7_keep_50 (sv T17 130 21 ((T17.1 130 21) - 1)) post) ∧ (¬ 1792 ≤ v1_16 → vp_in (v1_16 + 256) 2048 ∧ (vp_in v1_16 2048 ∧ (k18 (v1_16 + 1) (sv T17 143 (v1_16.toNatClampNeg) (T17.1 143 (v1_16 + 256).toNatClampNeg)))))
def wp_X7_keep (T : St) (post : St → Prop) : Prop :=
  (¬ T.1 130 21 = 8 → wj_X7_keep_50 T post) ∧ (T.1 130 21 = 8 → LW (fun kl (vl : Int32) Tl => wb_X7_keep_11 kl vl Tl post) 0 T)
set_option maxHeartbeats 4000000 in
set_option maxRecDepth 100000 in
theorem m_X7_keep (l : Launch) (G : Gm) (hi : Inj G)   (T : St) (post : St → Prop) (hw : wp_X7_keep T post) : Mv l yX7_keep cX7_keep 2 none 0 0 G [.ref (G.2.2 130)] T post := by
  refine sy_head hi (by decide) (Nat.le_of_ble_eq_true rfl) (lv := [(0, .ref (G.2.2 130))]) rfl ?_
  intro p e s m below meth c C hr hlocks hP hS ls hl
  have C : Cx p s m _ c cX7_keep 2 RX7 G := C
  obtain ⟨hx, hb, hml, hown, hg, hK, hN, -⟩ := id C
  unfold wp_X7_keep at hw
  have J15 : ∀  (T2 : St), wj_X7_keep_50    T2 post → ∀ (H : Heap) (locs : List Loc), va_P G.1 sc_cl (wd G T2) H → va_S (SA G) s.heap H locs → ∀ ls : Array Slot, lv_has ls 2 [(0, .ref (G.2.2 130))] → W p l e { frames := 0, cells := 0, slots := 0, locals := 0 } s m ([.ref (G.2.2 130)] : List Value).toArray below meth c H locs 0 0 (MQ below (va_Qv post (Sy G) (SA G)) ([.ref (G.2.2 130)] : List Value).toArray s 0 0 (SA G)) (F0 m 50 ls []) := by
    intro  T2  hw H locs hP hS ls hl
    unfold wj_X7_keep_50 at hw
    refine lv_iconst (v := 0) hx hb dX7_keep_50 (by decide) ?_
    refine lv_istore_n (lv' := [(1, .int 0), (0, .ref (G.2.2 130))]) hx hb dX7_keep_51 rfl hl (by decide) rfl (fun ls hl => ?_)
    obtain ⟨I6, u7, hI, hst8⟩ := hw
    have L11 : ∀ (n : Nat) (v1_3 : Int32) (T4 : St), I6 v1_3 T4 → u7 v1_3 T4 < n → ∀ (H : Heap) (locs : List Loc), va_P G.1 sc_cl (wd G T4) H → va_S (SA G) s.heap H locs → ∀ ls : Array Slot, lv_has ls 2 [(1, .int v1_3), (0, .ref (G.2.2 130))] → W p l e { frames := 0, cells := 0, slots := 0, locals := 0 } s m ([.ref (G.2.2 130)] : List Value).toArray below meth c H locs 0 0 (MQ below (va_Qv post (Sy G) (SA G)) ([.ref (G.2.2 130)] : List Value).toArray s 0 0 (SA G)) (F0 m 52 ls []) := by
      intro n
      induction n with
      | zero => intro _ _ _ h; exact absurd h (Nat.not_lt_zero _)
      | succ n ih9 =>
        intro v1_3 T4 hI hlt10 H locs hP hS ls hl
        have hw := hst8 v1_3 T4 hI
        unfold wb_X7_keep_52 at hw
        refine lv_iload_n hx hb dX7_keep_52 rfl (lv_at hl 0 rfl) ?_
        refine lv_sipush (v := 256) hx hb dX7_keep_53 (by decide) ?_
        refine lv_icmp_ge (tgt := 86) hx hb dX7_keep_56 (by decide) (fun hc12 => ?_) (fun hc12 => ?_)
        · have hw := hw.1 hc12
          refine lv_aload_n hx hb dX7_keep_86 rfl (lv_at hl 1 rfl) ?_
          refine lv_dup hx hb dX7_keep_87 rfl ?_
          refine gf_X7_96 C hP (o := 130) rfl dX7_keep_88 ?_
          refine lv_iconst (v := 1) hx hb dX7_keep_91 (by decide) ?_
          refine lv_iadd hx hb dX7_keep_92 ?_
          refine pf_X7_96 C hP hS (fun _ h => h) (o := 130) rfl dX7_keep_93 (fun H locs hP hS => ?_)
          exact sy_vret C hr hlocks hP hS hw dX7_keep_96
        · have hw := hw.2 hc12
          refine lv_aload_n hx hb dX7_keep_59 rfl (lv_at hl 1 rfl) ?_
          refine gf_X7_47 C hP (o := 130) rfl dX7_keep_60 ?_
          refine lv_sipush (v := 256) hx hb dX7_keep_63 (by decide) ?_
          refine lv_aload_n hx hb dX7_keep_66 rfl (lv_at hl 1 rfl) ?_
          refine gf_X7_96 C hP (o := 130) rfl dX7_keep_67 ?_
          refine lv_imul hx hb dX7_keep_70 ?_
          refine lv_iload_n hx hb dX7_keep_71 rfl (lv_at hl 0 rfl) ?_
          refine lv_iadd hx hb dX7_keep_72 ?_
          refine lv_aload_n hx hb dX7_keep_73 rfl (lv_at hl 1 rfl) ?_
          refine gf_X7_50 C hP (o := 130) rfl dX7_keep_74 ?_
          refine lv_iload_n hx hb dX7_keep_77 rfl (lv_at hl 0 rfl) ?_
          obtain ⟨hn13, hw⟩ := hw
          refine sy_iald C hP (o := 144) rfl rfl hn13 dX7_keep_78 ?_
          obtain ⟨hn14, hw⟩ := hw
          refine sy_iast C hP hS (fun _ h => h) (o := 143) rfl rfl hn14 dX7_keep_79 (fun H locs hP hS => ?_)
          refine lv_iinc (v := v1_3 + 1) (lv' := [(1, .int (v1_3 + 1)), (0, .ref (G.2.2 130))]) hx hb dX7_keep_80 hl (k := 0) rfl rfl (by decide) rfl (fun ls hl => ?_)
          refine lv_goto (tgt := 52) hx hb dX7_keep_83 (by decide) ?_
          exact ih9 _ _ hw.1 (Nat.lt_of_lt_of_le hw.2 (Nat.le_of_lt_succ hlt10)) _ _ hP hS ls (lv_sub hl [0, 1] rfl)
    exact L11 _ _ _ hI (Nat.lt_succ_self _) _ _ hP hS ls (lv_sub hl [0, 1] rfl)
  refine lv_aload_n hx hb dX7_keep_0 rfl (lv_at hl 0 rfl) ?_
  refine gf_X7_96 C hP (o := 130) rfl dX7_keep_1 ?_
  refine lv_bipush (v := 8) hx hb dX7_keep_4 (by decide) ?_
  refine lv_icmp_ne (tgt := 50) hx hb dX7_keep_6 (by decide) (fun hc1 => ?_) (fun hc1 => ?_)
  · have hw := hw.1 hc1
    exact J15 _  hw _ _ hP hS ls (lv_sub hl [0] rfl)
  · have hw := hw.2 hc1
    refine lv_iconst (v := 0) hx hb dX7_keep_9 (by decide) ?_
    refine lv_istore_n (lv' := [(1, .int 0), (0, .ref (G.2.2 130))]) hx hb dX7_keep_10 rfl hl (by decide) rfl (fun ls hl => ?_)
    obtain ⟨I19, u20, hI, hst21⟩ := hw
    have L24 : ∀ (n : Nat) (v1_16 : Int32) (T17 : St), I19 v1_16 T17 → u20 v1_16 T17 < n → ∀ (H : Heap) (locs : List Loc), va_P G.1 sc_cl (wd G T17) H → va_S (SA G) s.heap H locs → ∀ ls : Array Slot, lv_has ls 2 [(1, .int v1_16), (0, .ref (G.2.2 130))] → W p l e { frames := 0, cells := 0, slots := 0, locals := 0 } s m ([.ref (G.2.2 130)] : List Value).toArray below meth c H locs 0 0 (MQ below (va_Qv post (Sy G) (SA G)) ([.ref (G.2.2 130)] : List Value).toArray s 0 0 (SA G)) (F0 m 11 ls []) := by
      intro n
      induction n with
      | zero => intro _ _ _ h; exact absurd h (Nat.not_lt_zero _)
      | succ n ih22 =>
        intro v1_16 T17 hI hlt23 H locs hP hS ls hl
        have hw := hst21 v1_16 T17 hI
        unfold wb_X7_keep_11 at hw
        refine lv_iload_n hx hb dX7_keep_11 rfl (lv_at hl 0 rfl) ?_
        refine lv_sipush (v := 1792) hx hb dX7_keep_12 (by decide) ?_
        refine lv_icmp_ge (tgt := 40) hx hb dX7_keep_15 (by decide) (fun hc25 => ?_) (fun hc25 => ?_)
        · have hw := hw.1 hc25
          refine lv_aload_n hx hb dX7_keep_40 rfl (lv_at hl 1 rfl) ?_
          refine lv_dup hx hb dX7_keep_41 rfl ?_
          refine gf_X7_96 C hP (o := 130) rfl dX7_keep_42 ?_
          refine lv_iconst (v := 1) hx hb dX7_keep_45 (by decide) ?_
          refine lv_isub hx hb dX7_keep_46 ?_
          refine pf_X7_96 C hP hS (fun _ h => h) (o := 130) rfl dX7_keep_47 (fun H locs hP hS => ?_)
          exact J15 _  hw _ _ hP hS ls (lv_sub hl [1] rfl)
        · have hw := hw.2 hc25
          refine lv_aload_n hx hb dX7_keep_18 rfl (lv_at hl 1 rfl) ?_
          refine gf_X7_47 C hP (o := 130) rfl dX7_keep_19 ?_
          refine lv_iload_n hx hb dX7_keep_22 rfl (lv_at hl 0 rfl) ?_
          refine lv_aload_n hx hb dX7_keep_23 rfl (lv_at hl 1 rfl) ?_
          refine gf_X7_47 C hP (o := 130) rfl dX7_keep_24 ?_
          refine lv_iload_n hx hb dX7_keep_27 rfl (lv_at hl 0 rfl) ?_
          refine lv_sipush (v := 256) hx hb dX7_keep_28 (by decide) ?_
          refine lv_iadd hx hb dX7_keep_31 ?_
          obtain ⟨hn26, hw⟩ := hw
          refine sy_iald C hP (o := 143) rfl rfl hn26 dX7_keep_32 ?_
          obtain ⟨hn27, hw⟩ := hw
          refine sy_iast C hP hS (fun _ h => h) (o := 143) rfl rfl hn27 dX7_keep_33 (fun H locs hP hS => ?_)
          refine lv_iinc (v := v1_16 + 1) (lv' := [(1, .int (v1_16 + 1)), (0, .ref (G.2.2 130))]) hx hb dX7_keep_34 hl (k := 0) rfl rfl (by decide) rfl (fun ls hl => ?_)
          refine lv_goto (tgt := 11) hx hb dX7_keep_37 (by decide) ?_
          exact ih22 _ _ hw.1 (Nat.lt_of_lt_of_le hw.2 (Nat.le_of_lt_succ hlt23)) _ _ hP hS ls (lv_sub hl [0, 1] rfl)
    exact L24 _ _ _ hI (Nat.lt_succ_self _) _ _ hP hS ls (lv_sub hl [0, 1] rfl)
theorem mw_X7_put : MW yX7_put cX7_put 9 (some .int) 3 := ⟨w_872, w_8, by decide +kernel⟩
def wj_X7_put_96  (k13 : (Int32 × Int32 × Int32) → St → Prop) (j5_31 : Int32) (j7_32 : Int32) (j8_33 : Int32) (s34 : Int32) (T35 : St) (post : Int32 → St → Prop) : Prop :=
  (j8_33 ≤ 0 → k13 (j5_31 + 0, s34, j7_32 + 1) T35) ∧ (¬ j8_33 ≤ 0 → k13 (j5_31 + j8_33, s34, j7_32 + 1) T35)
def wj_X7_put_91  (k13 : (Int32 × Int32 × Int32) → St → Prop) (j5_27 : Int32) (j7_28 : Int32) (j8_29 : Int32) (T30 : St) (post : Int32 → St → Prop) : Prop :=
  wj_X7_put_96 k13 j5_27 j7_28 j8_29 1 T30 post
def wb_X7_put_43 (a1 : Int32) (a2 : Int64) (a3 : Int32) (k13 : (Int32 × Int32 × Int32) → St → Prop) (v5_9 : Int32) (v6_10 : Int32) (v7_11 : Int32) (T12 : St) (post : Int32 → St → Prop) : Prop :=
 (a3 ≤ v7_11 → (v6_10 = 0 → post v5_9 T12) ∧ (¬ v6_10 = 0 → wp_X7_keep T12 (fun T22 => post v5_9 T22))) ∧ (¬ a3 ≤ v7_11 → wp_X7_becomes ((a1 + v7_11) &&& 255) (((a2 >>> ((8 * ((a3 - 1) - v7_11)).toInt64 &&& 63)) &&& 255).toInt32) T12 (fun r25 T24 => (¬ v6_10 = 0 → wj_X7_put_91 k13 v5_9 v7_11 r25 T24 post) ∧ (v6_10 = 0 → (r25 < 0 → wj_X7_put_96 k13 v5_9 v7_11 r25 0 T24 post) ∧ (¬ r25 < 0 → wj_X7_put_91 k13 v5_9 v7_11 r25 T24 post))))
def wp_X7_put (a1 : Int32) (a2 : Int64) (a3 : Int32) (T : St) (post : Int32 → St → Prop) : Prop :=
  wp_X7_in a1 0 255 (sv T 130 0 0) (fun r2 T1 => (r2 = 0 → post (-2) T1) ∧ (¬ r2 = 0 → wp_X7_in a3 1 8 T1 (fun r5 T4 => (¬ r5 = 0 → wp_X7_note T4 (fun T7 => LW (fun kl (vl : Int32 × Int32 × Int32) Tl => wb_X7_put_43 a1 a2 a3 kl vl.1 vl.2.1 vl.2.2 Tl post) (0, 0, 0) T7)) ∧ (r5 = 0 → post (-2) T4))))
set_option maxHeartbeats 4000000 in
set_option maxRecDepth 100000 in
theorem m_X7_put (l : Launch) (G : Gm) (hi : Inj G) (a1 : Int32) (a2 : Int64) (a3 : Int32)  (T : St) (post : Int32 → St → Prop) (hw : wp_X7_put a1 a2 a3 T post) : Mi l yX7_put cX7_put 9 (some .int) 2 48 G [.ref (G.2.2 130), .int a1, .long a2, .int a3] T post := by
  refine sy_head hi (by decide) (Nat.le_of_ble_eq_true rfl) (lv := [(0, .ref (G.2.2 130)), (1, .int a1), (2, .long a2), (4, .int a3)]) rfl ?_
  intro p e s m below meth c C hr hlocks hP hS ls hl
  have C : Cx p s m _ c cX7_put 9 RX7 G := C
  obtain ⟨hx, hb, hml, hown, hg, hK, hN, -⟩ := id C
  unfold wp_X7_put at hw
  refine lv_aload_n hx hb dX7_put_0 rfl (lv_at hl 0 rfl) ?_
  refine lv_iconst (v := 0) hx hb dX7_put_1 (by decide) ?_
  refine pf_X7_71 C hP hS (fun _ h => h) (o := 130) rfl dX7_put_2 (fun H locs hP hS => ?_)
  refine lv_iload_n hx hb dX7_put_5 rfl (lv_at hl 1 rfl) ?_
  refine lv_iconst (v := 0) hx hb dX7_put_6 (by decide) ?_
  refine lv_sipush (v := 255) hx hb dX7_put_7 (by decide) ?_
  refine sy_goi (sy_runS C hP (m_X7_in l G hi _ _ _ _ _ hw) mw_X7_in w_874 w_873 (rest := []) rfl hl.1 rfl (Nat.le_of_ble_eq_true rfl) ⟨Nat.le_of_ble_eq_true rfl, Nat.le_of_ble_eq_true rfl⟩ dX7_put_10 ⟨Nat.zero_le _, Nat.zero_le _⟩) hS (fun _ h => h) (fun r2 T1 H locs hw hP hS => ?_)
  refine lv_if_eq (tgt := 27) hx hb dX7_put_13 (by decide) (fun hc3 => ?_) (fun hc3 => ?_)
  · have hw := hw.1 hc3
    refine lv_bipush (v := (-2)) hx hb dX7_put_27 (by decide) ?_
    exact sy_iret C hr hlocks hP hS hw dX7_put_29
  · have hw := hw.2 hc3
    refine lv_iload hx hb dX7_put_16 (lv_at hl 3 rfl) ?_
    refine lv_iconst (v := 1) hx hb dX7_put_18 (by decide) ?_
    refine lv_bipush (v := 8) hx hb dX7_put_19 (by decide) ?_
    refine sy_goi (sy_runS C hP (m_X7_in l G hi _ _ _ _ _ hw) mw_X7_in w_874 w_873 (rest := []) rfl hl.1 rfl (Nat.le_of_ble_eq_true rfl) ⟨Nat.le_of_ble_eq_true rfl, Nat.le_of_ble_eq_true rfl⟩ dX7_put_21 ⟨Nat.zero_le _, Nat.zero_le _⟩) hS (fun _ h => h) (fun r5 T4 H locs hw hP hS => ?_)
    refine lv_if_ne (tgt := 30) hx hb dX7_put_24 (by decide) (fun hc6 => ?_) (fun hc6 => ?_)
    · have hw := hw.1 hc6
      refine lv_aload_n hx hb dX7_put_30 rfl (lv_at hl 0 rfl) ?_
      refine sy_gov (sy_runV C hP rfl rfl (m_X7_note l G hi  _ _ hw) mw_X7_note w_878 ws_25 w_876 (rest := []) rfl hl.1 rfl (Nat.le_of_ble_eq_true rfl) ⟨Nat.le_of_ble_eq_true rfl, Nat.le_of_ble_eq_true rfl⟩ dX7_put_31 ⟨Nat.zero_le _, Nat.zero_le _⟩) hS (fun _ h => h) (fun T7 H locs hw hP hS => ?_)
      refine lv_iconst (v := 0) hx hb dX7_put_34 (by decide) ?_
      refine lv_istore (lv' := [(5, .int 0), (0, .ref (G.2.2 130)), (1, .int a1), (2, .long a2), (4, .int a3)]) hx hb dX7_put_35 hl (by decide) rfl (fun ls hl => ?_)
      refine lv_iconst (v := 0) hx hb dX7_put_37 (by decide) ?_
      refine lv_istore (lv' := [(6, .int 0), (5, .int 0), (0, .ref (G.2.2 130)), (1, .int a1), (2, .long a2), (4, .int a3)]) hx hb dX7_put_38 hl (by decide) rfl (fun ls hl => ?_)
      refine lv_iconst (v := 0) hx hb dX7_put_40 (by decide) ?_
      refine lv_istore (lv' := [(7, .int 0), (6, .int 0), (5, .int 0), (0, .ref (G.2.2 130)), (1, .int a1), (2, .long a2), (4, .int a3)]) hx hb dX7_put_41 hl (by decide) rfl (fun ls hl => ?_)
      obtain ⟨I14, u15, hI, hst16⟩ := hw
      have L19 : ∀ (n : Nat) (v5_9 : Int32) (v6_10 : Int32) (v7_11 : Int32) (T12 : St), I14 (v5_9, v6_10, v7_11) T12 → u15 (v5_9, v6_10, v7_11) T12 < n → ∀ (H : Heap) (locs : List Loc), va_P G.1 sc_cl (wd G T12) H → va_S (SA G) s.heap H locs → ∀ ls : Array Slot, lv_has ls 9 [(7, .int v7_11), (6, .int v6_10), (5, .int v5_9), (0, .ref (G.2.2 130)), (1, .int a1), (2, .long a2), (4, .int a3)] → W p l e { frames := 2, cells := 0, slots := 0, locals := 48 } s m ([.ref (G.2.2 130), .int a1, .long a2, .int a3] : List Value).toArray below meth c H locs 0 0 (MQ below (va_Qi post (Sy G) (SA G)) ([.ref (G.2.2 130), .int a1, .long a2, .int a3] : List Value).toArray s 0 0 (SA G)) (F0 m 43 ls []) := by
        intro n
        induction n with
        | zero => intro _ _ _ _ _ h; exact absurd h (Nat.not_lt_zero _)
        | succ n ih17 =>
          intro v5_9 v6_10 v7_11 T12 hI hlt18 H locs hP hS ls hl
          have hw := hst16 (v5_9, v6_10, v7_11) T12 hI
          unfold wb_X7_put_43 at hw
          have J37 : ∀ (j5_31 : Int32) (j7_32 : Int32) (j8_33 : Int32) (s34 : Int32) (T35 : St), wj_X7_put_96  (fun v' T' => I14 v' T' ∧ u15 v' T' < u15 (v5_9, v6_10, v7_11) T12) j5_31 j7_32 j8_33 s34 T35 post → ∀ (H : Heap) (locs : List Loc), va_P G.1 sc_cl (wd G T35) H → va_S (SA G) s.heap H locs → ∀ ls : Array Slot, lv_has ls 9 [(0, .ref (G.2.2 130)), (1, .int a1), (2, .long a2), (4, .int a3), (5, .int j5_31), (7, .int j7_32), (8, .int j8_33)] → W p l e { frames := 2, cells := 0, slots := 0, locals := 48 } s m ([.ref (G.2.2 130), .int a1, .long a2, .int a3] : List Value).toArray below meth c H locs 0 0 (MQ below (va_Qi post (Sy G) (SA G)) ([.ref (G.2.2 130), .int a1, .long a2, .int a3] : List Value).toArray s 0 0 (SA G)) (F0 m 96 ls [.int s34]) := by
            intro j5_31 j7_32 j8_33 s34 T35  hw H locs hP hS ls hl
            unfold wj_X7_put_96 at hw
            refine lv_istore (lv' := [(6, .int s34), (0, .ref (G.2.2 130)), (1, .int a1), (2, .long a2), (4, .int a3), (5, .int j5_31), (7, .int j7_32), (8, .int j8_33)]) hx hb dX7_put_96 hl (by decide) rfl (fun ls hl => ?_)
            refine lv_iload hx hb dX7_put_98 (lv_at hl 5 rfl) ?_
            refine lv_iload hx hb dX7_put_100 (lv_at hl 7 rfl) ?_
            refine lv_if_le (tgt := 110) hx hb dX7_put_102 (by decide) (fun hc36 => ?_) (fun hc36 => ?_)
            · have hw := hw.1 hc36
              refine lv_iconst (v := 0) hx hb dX7_put_110 (by decide) ?_
              refine lv_iadd hx hb dX7_put_111 ?_
              refine lv_istore (lv' := [(5, .int (j5_31 + 0)), (6, .int s34), (0, .ref (G.2.2 130)), (1, .int a1), (2, .long a2), (4, .int a3), (7, .int j7_32), (8, .int j8_33)]) hx hb dX7_put_112 hl (by decide) rfl (fun ls hl => ?_)
              refine lv_iinc (v := j7_32 + 1) (lv' := [(7, .int (j7_32 + 1)), (5, .int (j5_31 + 0)), (6, .int s34), (0, .ref (G.2.2 130)), (1, .int a1), (2, .long a2), (4, .int a3), (8, .int j8_33)]) hx hb dX7_put_114 hl (k := 6) rfl rfl (by decide) rfl (fun ls hl => ?_)
              refine lv_goto (tgt := 43) hx hb dX7_put_117 (by decide) ?_
              exact ih17 _ _ _ _ hw.1 (Nat.lt_of_lt_of_le hw.2 (Nat.le_of_lt_succ hlt18)) _ _ hP hS ls (lv_sub hl [0, 2, 1, 3, 4, 5, 6] rfl)
            · have hw := hw.2 hc36
              refine lv_iload hx hb dX7_put_105 (lv_at hl 7 rfl) ?_
              refine lv_goto (tgt := 111) hx hb dX7_put_107 (by decide) ?_
              refine lv_iadd hx hb dX7_put_111 ?_
              refine lv_istore (lv' := [(5, .int (j5_31 + j8_33)), (6, .int s34), (0, .ref (G.2.2 130)), (1, .int a1), (2, .long a2), (4, .int a3), (7, .int j7_32), (8, .int j8_33)]) hx hb dX7_put_112 hl (by decide) rfl (fun ls hl => ?_)
              refine lv_iinc (v := j7_32 + 1) (lv' := [(7, .int (j7_32 + 1)), (5, .int (j5_31 + j8_33)), (6, .int s34), (0, .ref (G.2.2 130)), (1, .int a1), (2, .long a2), (4, .int a3), (8, .int j8_33)]) hx hb dX7_put_114 hl (k := 6) rfl rfl (by decide) rfl (fun ls hl => ?_)
              refine lv_goto (tgt := 43) hx hb dX7_put_117 (by decide) ?_
              exact ih17 _ _ _ _ hw.1 (Nat.lt_of_lt_of_le hw.2 (Nat.le_of_lt_succ hlt18)) _ _ hP hS ls (lv_sub hl [0, 2, 1, 3, 4, 5, 6] rfl)
          have J38 : ∀ (j5_27 : Int32) (j7_28 : Int32) (j8_29 : Int32) (T30 : St), wj_X7_put_91  (fun v' T' => I14 v' T' ∧ u15 v' T' < u15 (v5_9, v6_10, v7_11) T12) j5_27 j7_28 j8_29 T30 post → ∀ (H : Heap) (locs : List Loc), va_P G.1 sc_cl (wd G T30) H → va_S (SA G) s.heap H locs → ∀ ls : Array Slot, lv_has ls 9 [(0, .ref (G.2.2 130)), (1, .int a1), (2, .long a2), (4, .int a3), (5, .int j5_27), (7, .int j7_28), (8, .int j8_29)] → W p l e { frames := 2, cells := 0, slots := 0, locals := 48 } s m ([.ref (G.2.2 130), .int a1, .long a2, .int a3] : List Value).toArray below meth c H locs 0 0 (MQ below (va_Qi post (Sy G) (SA G)) ([.ref (G.2.2 130), .int a1, .long a2, .int a3] : List Value).toArray s 0 0 (SA G)) (F0 m 91 ls []) := by
            intro j5_27 j7_28 j8_29 T30  hw H locs hP hS ls hl
            unfold wj_X7_put_91 at hw
            refine lv_iconst (v := 1) hx hb dX7_put_91 (by decide) ?_
            refine lv_goto (tgt := 96) hx hb dX7_put_92 (by decide) ?_
            exact J37 _ _ _ _ _  hw _ _ hP hS ls (lv_sub hl [0, 1, 2, 3, 4, 5, 6] rfl)
          refine lv_iload hx hb dX7_put_43 (lv_at hl 0 rfl) ?_
          refine lv_iload hx hb dX7_put_45 (lv_at hl 6 rfl) ?_
          refine lv_icmp_ge (tgt := 120) hx hb dX7_put_47 (by decide) (fun hc20 => ?_) (fun hc20 => ?_)
          · have hw := hw.1 hc20
            refine lv_iload hx hb dX7_put_120 (lv_at hl 1 rfl) ?_
            refine lv_if_eq (tgt := 129) hx hb dX7_put_122 (by decide) (fun hc21 => ?_) (fun hc21 => ?_)
            · have hw := hw.1 hc21
              refine lv_iload hx hb dX7_put_129 (lv_at hl 2 rfl) ?_
              exact sy_iret C hr hlocks hP hS hw dX7_put_131
            · have hw := hw.2 hc21
              refine lv_aload_n hx hb dX7_put_125 rfl (lv_at hl 3 rfl) ?_
              refine sy_gov (sy_runV C hP rfl rfl (m_X7_keep l G hi  _ _ hw) mw_X7_keep w_895 ws_29 w_893 (rest := []) rfl hl.1 rfl (Nat.le_of_ble_eq_true rfl) ⟨Nat.le_of_ble_eq_true rfl, Nat.le_of_ble_eq_true rfl⟩ dX7_put_126 ⟨Nat.zero_le _, Nat.zero_le _⟩) hS (fun _ h => h) (fun T22 H locs hw hP hS => ?_)
              refine lv_iload hx hb dX7_put_129 (lv_at hl 2 rfl) ?_
              exact sy_iret C hr hlocks hP hS hw dX7_put_131
          · have hw := hw.2 hc20
            refine lv_aload_n hx hb dX7_put_50 rfl (lv_at hl 3 rfl) ?_
            refine lv_iload_n hx hb dX7_put_51 rfl (lv_at hl 4 rfl) ?_
            refine lv_iload hx hb dX7_put_52 (lv_at hl 0 rfl) ?_
            refine lv_iadd hx hb dX7_put_54 ?_
            refine lv_sipush (v := 255) hx hb dX7_put_55 (by decide) ?_
            refine lv_iand hx hb dX7_put_58 ?_
            refine lv_lload_n hx hb dX7_put_59 rfl (lv_at hl 5 rfl) ?_
            refine lv_bipush (v := 8) hx hb dX7_put_60 (by decide) ?_
            refine lv_iload hx hb dX7_put_62 (lv_at hl 6 rfl) ?_
            refine lv_iconst (v := 1) hx hb dX7_put_64 (by decide) ?_
            refine lv_isub hx hb dX7_put_65 ?_
            refine lv_iload hx hb dX7_put_66 (lv_at hl 0 rfl) ?_
            refine lv_isub hx hb dX7_put_68 ?_
            refine lv_imul hx hb dX7_put_69 ?_
            refine lv_lshr hx hb dX7_put_70 rfl ?_
            refine lv_ldc2 (v := 255) hx hb hown (hg _ w_880) dX7_put_71 ?_
            refine lv_land hx hb dX7_put_74 ?_
            refine lv_l2i hx hb dX7_put_75 rfl ?_
            refine sy_goi (sy_runV C hP rfl rfl (m_X7_becomes l G hi _ _ _ _ hw) mw_X7_becomes w_883 ws_26 w_881 (rest := []) rfl hl.1 rfl (Nat.le_of_ble_eq_true rfl) ⟨Nat.le_of_ble_eq_true rfl, Nat.le_of_ble_eq_true rfl⟩ dX7_put_76 ⟨Nat.zero_le _, Nat.zero_le _⟩) hS (fun _ h => h) (fun r25 T24 H locs hw hP hS => ?_)
            refine lv_istore (lv' := [(8, .int r25), (7, .int v7_11), (6, .int v6_10), (5, .int v5_9), (0, .ref (G.2.2 130)), (1, .int a1), (2, .long a2), (4, .int a3)]) hx hb dX7_put_79 hl (by decide) rfl (fun ls hl => ?_)
            refine lv_iload hx hb dX7_put_81 (lv_at hl 2 rfl) ?_
            refine lv_if_ne (tgt := 91) hx hb dX7_put_83 (by decide) (fun hc26 => ?_) (fun hc26 => ?_)
            · have hw := hw.1 hc26
              exact J38 _ _ _ _  hw _ _ hP hS ls (lv_sub hl [4, 5, 6, 7, 3, 1, 0] rfl)
            · have hw := hw.2 hc26
              refine lv_iload hx hb dX7_put_86 (lv_at hl 0 rfl) ?_
              refine lv_if_lt (tgt := 95) hx hb dX7_put_88 (by decide) (fun hc39 => ?_) (fun hc39 => ?_)
              · have hw := hw.1 hc39
                refine lv_iconst (v := 0) hx hb dX7_put_95 (by decide) ?_
                exact J37 _ _ _ _ _  hw _ _ hP hS ls (lv_sub hl [4, 5, 6, 7, 3, 1, 0] rfl)
              · have hw := hw.2 hc39
                exact J38 _ _ _ _  hw _ _ hP hS ls (lv_sub hl [4, 5, 6, 7, 3, 1, 0] rfl)
      exact L19 _ _ _ _ _ hI (Nat.lt_succ_self _) _ _ hP hS ls (lv_sub hl [0, 1, 2, 3, 4, 5, 6] rfl)
    · have hw := hw.2 hc6
      refine lv_bipush (v := (-2)) hx hb dX7_put_27 (by decide) ?_
      exact sy_iret C hr hlocks hP hS hw dX7_put_29
theorem mw_X7_write : MW yX7_write cX7_write 4 (some .int) 2 := ⟨w_900, w_8, by decide +kernel⟩
def wp_X7_write (a1 : Int32) (a2 : Int32) (T : St) (post : Int32 → St → Prop) : Prop :=
  wp_X7_in a1 0 255 (sv T 130 0 0) (fun r2 T1 => (r2 = 0 → post (-2) T1) ∧ (¬ r2 = 0 → wp_X7_in a2 0 255 T1 (fun r5 T4 => (¬ r5 = 0 → wp_X7_note T4 (fun T7 => wp_X7_becomes a1 a2 T7 (fun r10 T9 => (r10 < 0 → (r10 ≤ 0 → post 0 T9) ∧ (¬ r10 ≤ 0 → post r10 T9)) ∧ (¬ r10 < 0 → wp_X7_keep T9 (fun T13 => (r10 ≤ 0 → post 0 T13) ∧ (¬ r10 ≤ 0 → post r10 T13)))))) ∧ (r5 = 0 → post (-2) T4))))
set_option maxHeartbeats 4000000 in
set_option maxRecDepth 100000 in
theorem m_X7_write (l : Launch) (G : Gm) (hi : Inj G) (a1 : Int32) (a2 : Int32)  (T : St) (post : Int32 → St → Prop) (hw : wp_X7_write a1 a2 T post) : Mi l yX7_write cX7_write 4 (some .int) 2 48 G [.ref (G.2.2 130), .int a1, .int a2] T post := by
  refine sy_head hi (by decide) (Nat.le_of_ble_eq_true rfl) (lv := [(0, .ref (G.2.2 130)), (1, .int a1), (2, .int a2)]) rfl ?_
  intro p e s m below meth c C hr hlocks hP hS ls hl
  have C : Cx p s m _ c cX7_write 4 RX7 G := C
  obtain ⟨hx, hb, hml, hown, hg, hK, hN, -⟩ := id C
  unfold wp_X7_write at hw
  refine lv_aload_n hx hb dX7_write_0 rfl (lv_at hl 0 rfl) ?_
  refine lv_iconst (v := 0) hx hb dX7_write_1 (by decide) ?_
  refine pf_X7_71 C hP hS (fun _ h => h) (o := 130) rfl dX7_write_2 (fun H locs hP hS => ?_)
  refine lv_iload_n hx hb dX7_write_5 rfl (lv_at hl 1 rfl) ?_
  refine lv_iconst (v := 0) hx hb dX7_write_6 (by decide) ?_
  refine lv_sipush (v := 255) hx hb dX7_write_7 (by decide) ?_
  refine sy_goi (sy_runS C hP (m_X7_in l G hi _ _ _ _ _ hw) mw_X7_in w_874 w_873 (rest := []) rfl hl.1 rfl (Nat.le_of_ble_eq_true rfl) ⟨Nat.le_of_ble_eq_true rfl, Nat.le_of_ble_eq_true rfl⟩ dX7_write_10 ⟨Nat.zero_le _, Nat.zero_le _⟩) hS (fun _ h => h) (fun r2 T1 H locs hw hP hS => ?_)
  refine lv_if_eq (tgt := 27) hx hb dX7_write_13 (by decide) (fun hc3 => ?_) (fun hc3 => ?_)
  · have hw := hw.1 hc3
    refine lv_bipush (v := (-2)) hx hb dX7_write_27 (by decide) ?_
    exact sy_iret C hr hlocks hP hS hw dX7_write_29
  · have hw := hw.2 hc3
    refine lv_iload_n hx hb dX7_write_16 rfl (lv_at hl 2 rfl) ?_
    refine lv_iconst (v := 0) hx hb dX7_write_17 (by decide) ?_
    refine lv_sipush (v := 255) hx hb dX7_write_18 (by decide) ?_
    refine sy_goi (sy_runS C hP (m_X7_in l G hi _ _ _ _ _ hw) mw_X7_in w_874 w_873 (rest := []) rfl hl.1 rfl (Nat.le_of_ble_eq_true rfl) ⟨Nat.le_of_ble_eq_true rfl, Nat.le_of_ble_eq_true rfl⟩ dX7_write_21 ⟨Nat.zero_le _, Nat.zero_le _⟩) hS (fun _ h => h) (fun r5 T4 H locs hw hP hS => ?_)
    refine lv_if_ne (tgt := 30) hx hb dX7_write_24 (by decide) (fun hc6 => ?_) (fun hc6 => ?_)
    · have hw := hw.1 hc6
      refine lv_aload_n hx hb dX7_write_30 rfl (lv_at hl 0 rfl) ?_
      refine sy_gov (sy_runV C hP rfl rfl (m_X7_note l G hi  _ _ hw) mw_X7_note w_878 ws_25 w_876 (rest := []) rfl hl.1 rfl (Nat.le_of_ble_eq_true rfl) ⟨Nat.le_of_ble_eq_true rfl, Nat.le_of_ble_eq_true rfl⟩ dX7_write_31 ⟨Nat.zero_le _, Nat.zero_le _⟩) hS (fun _ h => h) (fun T7 H locs hw hP hS => ?_)
      refine lv_aload_n hx hb dX7_write_34 rfl (lv_at hl 0 rfl) ?_
      refine lv_iload_n hx hb dX7_write_35 rfl (lv_at hl 1 rfl) ?_
      refine lv_iload_n hx hb dX7_write_36 rfl (lv_at hl 2 rfl) ?_
      refine sy_goi (sy_runV C hP rfl rfl (m_X7_becomes l G hi _ _ _ _ hw) mw_X7_becomes w_883 ws_26 w_881 (rest := []) rfl hl.1 rfl (Nat.le_of_ble_eq_true rfl) ⟨Nat.le_of_ble_eq_true rfl, Nat.le_of_ble_eq_true rfl⟩ dX7_write_37 ⟨Nat.zero_le _, Nat.zero_le _⟩) hS (fun _ h => h) (fun r10 T9 H locs hw hP hS => ?_)
      refine lv_istore_n (lv' := [(3, .int r10), (0, .ref (G.2.2 130)), (1, .int a1), (2, .int a2)]) hx hb dX7_write_40 rfl hl (by decide) rfl (fun ls hl => ?_)
      refine lv_iload_n hx hb dX7_write_41 rfl (lv_at hl 0 rfl) ?_
      refine lv_if_lt (tgt := 49) hx hb dX7_write_42 (by decide) (fun hc11 => ?_) (fun hc11 => ?_)
      · have hw := hw.1 hc11
        refine lv_iload_n hx hb dX7_write_49 rfl (lv_at hl 0 rfl) ?_
        refine lv_if_le (tgt := 57) hx hb dX7_write_50 (by decide) (fun hc12 => ?_) (fun hc12 => ?_)
        · have hw := hw.1 hc12
          refine lv_iconst (v := 0) hx hb dX7_write_57 (by decide) ?_
          exact sy_iret C hr hlocks hP hS hw dX7_write_58
        · have hw := hw.2 hc12
          refine lv_iload_n hx hb dX7_write_53 rfl (lv_at hl 0 rfl) ?_
          refine lv_goto (tgt := 58) hx hb dX7_write_54 (by decide) ?_
          exact sy_iret C hr hlocks hP hS hw dX7_write_58
      · have hw := hw.2 hc11
        refine lv_aload_n hx hb dX7_write_45 rfl (lv_at hl 1 rfl) ?_
        refine sy_gov (sy_runV C hP rfl rfl (m_X7_keep l G hi  _ _ hw) mw_X7_keep w_895 ws_29 w_893 (rest := []) rfl hl.1 rfl (Nat.le_of_ble_eq_true rfl) ⟨Nat.le_of_ble_eq_true rfl, Nat.le_of_ble_eq_true rfl⟩ dX7_write_46 ⟨Nat.zero_le _, Nat.zero_le _⟩) hS (fun _ h => h) (fun T13 H locs hw hP hS => ?_)
        refine lv_iload_n hx hb dX7_write_49 rfl (lv_at hl 0 rfl) ?_
        refine lv_if_le (tgt := 57) hx hb dX7_write_50 (by decide) (fun hc15 => ?_) (fun hc15 => ?_)
        · have hw := hw.1 hc15
          refine lv_iconst (v := 0) hx hb dX7_write_57 (by decide) ?_
          exact sy_iret C hr hlocks hP hS hw dX7_write_58
        · have hw := hw.2 hc15
          refine lv_iload_n hx hb dX7_write_53 rfl (lv_at hl 0 rfl) ?_
          refine lv_goto (tgt := 58) hx hb dX7_write_54 (by decide) ?_
          exact sy_iret C hr hlocks hP hS hw dX7_write_58
    · have hw := hw.2 hc6
      refine lv_bipush (v := (-2)) hx hb dX7_write_27 (by decide) ?_
      exact sy_iret C hr hlocks hP hS hw dX7_write_29
theorem mw_X7_read : MW yX7_read cX7_read 2 (some .int) 1 := ⟨w_904, w_8, by decide +kernel⟩
def wp_X7_read (a1 : Int32) (T : St) (post : Int32 → St → Prop) : Prop :=
  wp_X7_in a1 0 255 T (fun r2 T1 => (r2 = 0 → (¬ (sv T1 130 0 1).1 130 0 = 0 → post 0 (sv T1 130 0 1)) ∧ ((sv T1 130 0 1).1 130 0 = 0 → vp_in a1 256 ∧ (post ((sv T1 130 0 1).1 131 a1.toNatClampNeg) (sv T1 130 0 1)))) ∧ (¬ r2 = 0 → (¬ (sv T1 130 0 0).1 130 0 = 0 → post 0 (sv T1 130 0 0)) ∧ ((sv T1 130 0 0).1 130 0 = 0 → vp_in a1 256 ∧ (post ((sv T1 130 0 0).1 131 a1.toNatClampNeg) (sv T1 130 0 0)))))
set_option maxHeartbeats 4000000 in
set_option maxRecDepth 100000 in
theorem m_X7_read (l : Launch) (G : Gm) (hi : Inj G) (a1 : Int32)  (T : St) (post : Int32 → St → Prop) (hw : wp_X7_read a1 T post) : Mi l yX7_read cX7_read 2 (some .int) 1 22 G [.ref (G.2.2 130), .int a1] T post := by
  refine sy_head hi (by decide) (Nat.le_of_ble_eq_true rfl) (lv := [(0, .ref (G.2.2 130)), (1, .int a1)]) rfl ?_
  intro p e s m below meth c C hr hlocks hP hS ls hl
  have C : Cx p s m _ c cX7_read 2 RX7 G := C
  obtain ⟨hx, hb, hml, hown, hg, hK, hN, -⟩ := id C
  unfold wp_X7_read at hw
  refine lv_aload_n hx hb dX7_read_0 rfl (lv_at hl 0 rfl) ?_
  refine lv_iload_n hx hb dX7_read_1 rfl (lv_at hl 1 rfl) ?_
  refine lv_iconst (v := 0) hx hb dX7_read_2 (by decide) ?_
  refine lv_sipush (v := 255) hx hb dX7_read_3 (by decide) ?_
  refine sy_goi (sy_runS C hP (m_X7_in l G hi _ _ _ _ _ hw) mw_X7_in w_874 w_873 (rest := [.ref (G.2.2 130)]) rfl hl.1 rfl (Nat.le_of_ble_eq_true rfl) ⟨Nat.le_of_ble_eq_true rfl, Nat.le_of_ble_eq_true rfl⟩ dX7_read_6 ⟨Nat.zero_le _, Nat.zero_le _⟩) hS (fun _ h => h) (fun r2 T1 H locs hw hP hS => ?_)
  refine lv_if_eq (tgt := 16) hx hb dX7_read_9 (by decide) (fun hc3 => ?_) (fun hc3 => ?_)
  · have hw := hw.1 hc3
    refine lv_iconst (v := 1) hx hb dX7_read_16 (by decide) ?_
    refine pf_X7_71 C hP hS (fun _ h => h) (o := 130) rfl dX7_read_17 (fun H locs hP hS => ?_)
    refine lv_aload_n hx hb dX7_read_20 rfl (lv_at hl 0 rfl) ?_
    refine gf_X7_71 C hP (o := 130) rfl dX7_read_21 ?_
    refine lv_if_ne (tgt := 36) hx hb dX7_read_24 (by decide) (fun hc4 => ?_) (fun hc4 => ?_)
    · have hw := hw.1 hc4
      refine lv_iconst (v := 0) hx hb dX7_read_36 (by decide) ?_
      exact sy_iret C hr hlocks hP hS hw dX7_read_37
    · have hw := hw.2 hc4
      refine lv_aload_n hx hb dX7_read_27 rfl (lv_at hl 0 rfl) ?_
      refine gf_X7_7 C hP (o := 130) rfl dX7_read_28 ?_
      refine lv_iload_n hx hb dX7_read_31 rfl (lv_at hl 1 rfl) ?_
      obtain ⟨hn5, hw⟩ := hw
      refine sy_iald C hP (o := 131) rfl rfl hn5 dX7_read_32 ?_
      refine lv_goto (tgt := 37) hx hb dX7_read_33 (by decide) ?_
      exact sy_iret C hr hlocks hP hS hw dX7_read_37
  · have hw := hw.2 hc3
    refine lv_iconst (v := 0) hx hb dX7_read_12 (by decide) ?_
    refine lv_goto (tgt := 17) hx hb dX7_read_13 (by decide) ?_
    refine pf_X7_71 C hP hS (fun _ h => h) (o := 130) rfl dX7_read_17 (fun H locs hP hS => ?_)
    refine lv_aload_n hx hb dX7_read_20 rfl (lv_at hl 0 rfl) ?_
    refine gf_X7_71 C hP (o := 130) rfl dX7_read_21 ?_
    refine lv_if_ne (tgt := 36) hx hb dX7_read_24 (by decide) (fun hc6 => ?_) (fun hc6 => ?_)
    · have hw := hw.1 hc6
      refine lv_iconst (v := 0) hx hb dX7_read_36 (by decide) ?_
      exact sy_iret C hr hlocks hP hS hw dX7_read_37
    · have hw := hw.2 hc6
      refine lv_aload_n hx hb dX7_read_27 rfl (lv_at hl 0 rfl) ?_
      refine gf_X7_7 C hP (o := 130) rfl dX7_read_28 ?_
      refine lv_iload_n hx hb dX7_read_31 rfl (lv_at hl 1 rfl) ?_
      obtain ⟨hn7, hw⟩ := hw
      refine sy_iald C hP (o := 131) rfl rfl hn7 dX7_read_32 ?_
      refine lv_goto (tgt := 37) hx hb dX7_read_33 (by decide) ?_
      exact sy_iret C hr hlocks hP hS hw dX7_read_37
theorem mw_X7_routine : MW yX7_routine cX7_routine 2 (some .int) 1 := ⟨w_908, w_8, by decide +kernel⟩
def wp_X7_routine (a1 : Int32) (T : St) (post : Int32 → St → Prop) : Prop :=
  wp_X7_in a1 0 255 (sv T 130 0 0) (fun r2 T1 => (¬ r2 = 0 → (¬ T1.1 130 2 = 10 → vp_in (T1.1 130 2) 10 ∧ (vp_in ((sv T1 132 ((T1.1 130 2).toNatClampNeg) a1).1 130 2) 10 ∧ (∀ T7 : St, T7 = sv (sv T1 132 ((T1.1 130 2).toNatClampNeg) a1) 133 (((sv T1 132 ((T1.1 130 2).toNatClampNeg) a1).1 130 2).toNatClampNeg) (vp_nar .boolean 0) → (vp_in (T7.1 130 2) 10 ∧ (vp_in ((sv T7 138 ((T7.1 130 2).toNatClampNeg) (vp_nar .boolean 0)).1 130 2) 10 ∧ (∀ T10 : St, T10 = sv (sv T7 138 ((T7.1 130 2).toNatClampNeg) (vp_nar .boolean 0)) 137 (((sv T7 138 ((T7.1 130 2).toNatClampNeg) (vp_nar .boolean 0)).1 130 2).toNatClampNeg) 0 → (post (((sv T10 130 2 ((T10.1 130 2) + 1)).1 130 2) - 1) (sv T10 130 2 ((T10.1 130 2) + 1))))))))) ∧ (T1.1 130 2 = 10 → post (-4) T1)) ∧ (r2 = 0 → post (-2) T1))
set_option maxHeartbeats 4000000 in
set_option maxRecDepth 100000 in
theorem m_X7_routine (l : Launch) (G : Gm) (hi : Inj G) (a1 : Int32)  (T : St) (post : Int32 → St → Prop) (hw : wp_X7_routine a1 T post) : Mi l yX7_routine cX7_routine 2 (some .int) 1 22 G [.ref (G.2.2 130), .int a1] T post := by
  refine sy_head hi (by decide) (Nat.le_of_ble_eq_true rfl) (lv := [(0, .ref (G.2.2 130)), (1, .int a1)]) rfl ?_
  intro p e s m below meth c C hr hlocks hP hS ls hl
  have C : Cx p s m _ c cX7_routine 2 RX7 G := C
  obtain ⟨hx, hb, hml, hown, hg, hK, hN, -⟩ := id C
  unfold wp_X7_routine at hw
  refine lv_aload_n hx hb dX7_routine_0 rfl (lv_at hl 0 rfl) ?_
  refine lv_iconst (v := 0) hx hb dX7_routine_1 (by decide) ?_
  refine pf_X7_71 C hP hS (fun _ h => h) (o := 130) rfl dX7_routine_2 (fun H locs hP hS => ?_)
  refine lv_iload_n hx hb dX7_routine_5 rfl (lv_at hl 1 rfl) ?_
  refine lv_iconst (v := 0) hx hb dX7_routine_6 (by decide) ?_
  refine lv_sipush (v := 255) hx hb dX7_routine_7 (by decide) ?_
  refine sy_goi (sy_runS C hP (m_X7_in l G hi _ _ _ _ _ hw) mw_X7_in w_874 w_873 (rest := []) rfl hl.1 rfl (Nat.le_of_ble_eq_true rfl) ⟨Nat.le_of_ble_eq_true rfl, Nat.le_of_ble_eq_true rfl⟩ dX7_routine_10 ⟨Nat.zero_le _, Nat.zero_le _⟩) hS (fun _ h => h) (fun r2 T1 H locs hw hP hS => ?_)
  refine lv_if_ne (tgt := 19) hx hb dX7_routine_13 (by decide) (fun hc3 => ?_) (fun hc3 => ?_)
  · have hw := hw.1 hc3
    refine lv_aload_n hx hb dX7_routine_19 rfl (lv_at hl 0 rfl) ?_
    refine gf_X7_75 C hP (o := 130) rfl dX7_routine_20 ?_
    refine lv_bipush (v := 10) hx hb dX7_routine_23 (by decide) ?_
    refine lv_icmp_ne (tgt := 31) hx hb dX7_routine_25 (by decide) (fun hc4 => ?_) (fun hc4 => ?_)
    · have hw := hw.1 hc4
      refine lv_aload_n hx hb dX7_routine_31 rfl (lv_at hl 0 rfl) ?_
      refine gf_X7_13 C hP (o := 130) rfl dX7_routine_32 ?_
      refine lv_aload_n hx hb dX7_routine_35 rfl (lv_at hl 0 rfl) ?_
      refine gf_X7_75 C hP (o := 130) rfl dX7_routine_36 ?_
      refine lv_iload_n hx hb dX7_routine_39 rfl (lv_at hl 1 rfl) ?_
      obtain ⟨hn5, hw⟩ := hw
      refine sy_iast C hP hS (fun _ h => h) (o := 132) rfl rfl hn5 dX7_routine_40 (fun H locs hP hS => ?_)
      refine lv_aload_n hx hb dX7_routine_41 rfl (lv_at hl 0 rfl) ?_
      refine gf_X7_16 C hP (o := 130) rfl dX7_routine_42 ?_
      refine lv_aload_n hx hb dX7_routine_45 rfl (lv_at hl 0 rfl) ?_
      refine gf_X7_75 C hP (o := 130) rfl dX7_routine_46 ?_
      refine lv_iconst (v := 0) hx hb dX7_routine_49 (by decide) ?_
      obtain ⟨hn6, hw⟩ := hw
      refine sy_zast C hP hS (fun _ h => h) (o := 133) rfl rfl hn6 dX7_routine_50 (fun H locs hP hS => ?_)
      obtain ⟨T7, eT7, hP⟩ := nameT (P := fun T => va_P G.1 sc_cl (wd G T) H) hP
      have hw := hw T7 eT7
      refine lv_aload_n hx hb dX7_routine_51 rfl (lv_at hl 0 rfl) ?_
      refine gf_X7_32 C hP (o := 130) rfl dX7_routine_52 ?_
      refine lv_aload_n hx hb dX7_routine_55 rfl (lv_at hl 0 rfl) ?_
      refine gf_X7_75 C hP (o := 130) rfl dX7_routine_56 ?_
      refine lv_iconst (v := 0) hx hb dX7_routine_59 (by decide) ?_
      obtain ⟨hn8, hw⟩ := hw
      refine sy_zast C hP hS (fun _ h => h) (o := 138) rfl rfl hn8 dX7_routine_60 (fun H locs hP hS => ?_)
      refine lv_aload_n hx hb dX7_routine_61 rfl (lv_at hl 0 rfl) ?_
      refine gf_X7_29 C hP (o := 130) rfl dX7_routine_62 ?_
      refine lv_aload_n hx hb dX7_routine_65 rfl (lv_at hl 0 rfl) ?_
      refine gf_X7_75 C hP (o := 130) rfl dX7_routine_66 ?_
      refine lv_iconst (v := 0) hx hb dX7_routine_69 (by decide) ?_
      obtain ⟨hn9, hw⟩ := hw
      refine sy_iast C hP hS (fun _ h => h) (o := 137) rfl rfl hn9 dX7_routine_70 (fun H locs hP hS => ?_)
      obtain ⟨T10, eT10, hP⟩ := nameT (P := fun T => va_P G.1 sc_cl (wd G T) H) hP
      have hw := hw T10 eT10
      refine lv_aload_n hx hb dX7_routine_71 rfl (lv_at hl 0 rfl) ?_
      refine lv_dup hx hb dX7_routine_72 rfl ?_
      refine gf_X7_75 C hP (o := 130) rfl dX7_routine_73 ?_
      refine lv_iconst (v := 1) hx hb dX7_routine_76 (by decide) ?_
      refine lv_iadd hx hb dX7_routine_77 ?_
      refine pf_X7_75 C hP hS (fun _ h => h) (o := 130) rfl dX7_routine_78 (fun H locs hP hS => ?_)
      refine lv_aload_n hx hb dX7_routine_81 rfl (lv_at hl 0 rfl) ?_
      refine gf_X7_75 C hP (o := 130) rfl dX7_routine_82 ?_
      refine lv_iconst (v := 1) hx hb dX7_routine_85 (by decide) ?_
      refine lv_isub hx hb dX7_routine_86 ?_
      exact sy_iret C hr hlocks hP hS hw dX7_routine_87
    · have hw := hw.2 hc4
      refine lv_bipush (v := (-4)) hx hb dX7_routine_28 (by decide) ?_
      exact sy_iret C hr hlocks hP hS hw dX7_routine_30
  · have hw := hw.2 hc3
    refine lv_bipush (v := (-2)) hx hb dX7_routine_16 (by decide) ?_
    exact sy_iret C hr hlocks hP hS hw dX7_routine_18
theorem mw_X7_isLong : MW yX7_isLong cX7_isLong 1 (some .boolean) 1 := ⟨w_919, w_8, by decide +kernel⟩
def wp_X7_isLong (a1 : Int32) (T : St) (post : Int32 → St → Prop) : Prop :=
  (a1 = 1 → post 1 T) ∧ (¬ a1 = 1 → (a1 = 2 → post 1 T) ∧ (¬ a1 = 2 → (a1 < 4 → post 0 T) ∧ (¬ a1 < 4 → (9 < a1 → post 0 T) ∧ (¬ 9 < a1 → post 1 T))))
set_option maxHeartbeats 4000000 in
set_option maxRecDepth 100000 in
theorem m_X7_isLong (l : Launch) (G : Gm) (hi : Inj G) (a1 : Int32)  (T : St) (post : Int32 → St → Prop) (hw : wp_X7_isLong a1 T post) : Mi l yX7_isLong cX7_isLong 1 (some .boolean) 0 0 G [.int a1] T post := by
  refine sy_head hi (by decide) (Nat.le_of_ble_eq_true rfl) (lv := [(0, .int a1)]) rfl ?_
  intro p e s m below meth c C hr hlocks hP hS ls hl
  have C : Cx p s m _ c cX7_isLong 1 RX7 G := C
  obtain ⟨hx, hb, hml, hown, hg, hK, hN, -⟩ := id C
  unfold wp_X7_isLong at hw
  refine lv_iload_n hx hb dX7_isLong_0 rfl (lv_at hl 0 rfl) ?_
  refine lv_iconst (v := 1) hx hb dX7_isLong_1 (by decide) ?_
  refine lv_icmp_eq (tgt := 21) hx hb dX7_isLong_2 (by decide) (fun hc1 => ?_) (fun hc1 => ?_)
  · have hw := hw.1 hc1
    refine lv_iconst (v := 1) hx hb dX7_isLong_21 (by decide) ?_
    refine lv_goto (tgt := 26) hx hb dX7_isLong_22 (by decide) ?_
    exact sy_zret C hr hlocks hP hS rfl hw dX7_isLong_26
  · have hw := hw.2 hc1
    refine lv_iload_n hx hb dX7_isLong_5 rfl (lv_at hl 0 rfl) ?_
    refine lv_iconst (v := 2) hx hb dX7_isLong_6 (by decide) ?_
    refine lv_icmp_eq (tgt := 21) hx hb dX7_isLong_7 (by decide) (fun hc2 => ?_) (fun hc2 => ?_)
    · have hw := hw.1 hc2
      refine lv_iconst (v := 1) hx hb dX7_isLong_21 (by decide) ?_
      refine lv_goto (tgt := 26) hx hb dX7_isLong_22 (by decide) ?_
      exact sy_zret C hr hlocks hP hS rfl hw dX7_isLong_26
    · have hw := hw.2 hc2
      refine lv_iload_n hx hb dX7_isLong_10 rfl (lv_at hl 0 rfl) ?_
      refine lv_iconst (v := 4) hx hb dX7_isLong_11 (by decide) ?_
      refine lv_icmp_lt (tgt := 25) hx hb dX7_isLong_12 (by decide) (fun hc3 => ?_) (fun hc3 => ?_)
      · have hw := hw.1 hc3
        refine lv_iconst (v := 0) hx hb dX7_isLong_25 (by decide) ?_
        exact sy_zret C hr hlocks hP hS rfl hw dX7_isLong_26
      · have hw := hw.2 hc3
        refine lv_iload_n hx hb dX7_isLong_15 rfl (lv_at hl 0 rfl) ?_
        refine lv_bipush (v := 9) hx hb dX7_isLong_16 (by decide) ?_
        refine lv_icmp_gt (tgt := 25) hx hb dX7_isLong_18 (by decide) (fun hc4 => ?_) (fun hc4 => ?_)
        · have hw := hw.1 hc4
          refine lv_iconst (v := 0) hx hb dX7_isLong_25 (by decide) ?_
          exact sy_zret C hr hlocks hP hS rfl hw dX7_isLong_26
        · have hw := hw.2 hc4
          refine lv_iconst (v := 1) hx hb dX7_isLong_21 (by decide) ?_
          refine lv_goto (tgt := 26) hx hb dX7_isLong_22 (by decide) ?_
          exact sy_zret C hr hlocks hP hS rfl hw dX7_isLong_26
theorem mw_X7_behind : MW yX7_behind cX7_behind 2 (some .int) 1 := ⟨w_923, w_8, by decide +kernel⟩
def wp_X7_behind (a1 : Int32) (T : St) (post : Int32 → St → Prop) : Prop :=
  vp_in a1 256 ∧ (wp_X7_isLong (T.1 131 a1.toNatClampNeg) T (fun r3 T2 => (r3 = 0 → post ((a1 + 1) &&& 255) T2) ∧ (¬ r3 = 0 → post ((a1 + 2) &&& 255) T2)))
set_option maxHeartbeats 4000000 in
set_option maxRecDepth 100000 in
theorem m_X7_behind (l : Launch) (G : Gm) (hi : Inj G) (a1 : Int32)  (T : St) (post : Int32 → St → Prop) (hw : wp_X7_behind a1 T post) : Mi l yX7_behind cX7_behind 2 (some .int) 1 20 G [.ref (G.2.2 130), .int a1] T post := by
  refine sy_head hi (by decide) (Nat.le_of_ble_eq_true rfl) (lv := [(0, .ref (G.2.2 130)), (1, .int a1)]) rfl ?_
  intro p e s m below meth c C hr hlocks hP hS ls hl
  have C : Cx p s m _ c cX7_behind 2 RX7 G := C
  obtain ⟨hx, hb, hml, hown, hg, hK, hN, -⟩ := id C
  unfold wp_X7_behind at hw
  refine lv_iload_n hx hb dX7_behind_0 rfl (lv_at hl 1 rfl) ?_
  refine lv_aload_n hx hb dX7_behind_1 rfl (lv_at hl 0 rfl) ?_
  refine gf_X7_7 C hP (o := 130) rfl dX7_behind_2 ?_
  refine lv_iload_n hx hb dX7_behind_5 rfl (lv_at hl 1 rfl) ?_
  obtain ⟨hn1, hw⟩ := hw
  refine sy_iald C hP (o := 131) rfl rfl hn1 dX7_behind_6 ?_
  refine sy_goi (sy_runS C hP (m_X7_isLong l G hi _ _ _ hw) mw_X7_isLong w_918 w_917 (rest := [.int a1]) rfl hl.1 rfl (Nat.le_of_ble_eq_true rfl) ⟨Nat.le_of_ble_eq_true rfl, Nat.le_of_ble_eq_true rfl⟩ dX7_behind_7 ⟨Nat.zero_le _, Nat.zero_le _⟩) hS (fun _ h => h) (fun r3 T2 H locs hw hP hS => ?_)
  refine lv_if_eq (tgt := 17) hx hb dX7_behind_10 (by decide) (fun hc4 => ?_) (fun hc4 => ?_)
  · have hw := hw.1 hc4
    refine lv_iconst (v := 1) hx hb dX7_behind_17 (by decide) ?_
    refine lv_iadd hx hb dX7_behind_18 ?_
    refine lv_sipush (v := 255) hx hb dX7_behind_19 (by decide) ?_
    refine lv_iand hx hb dX7_behind_22 ?_
    exact sy_iret C hr hlocks hP hS hw dX7_behind_23
  · have hw := hw.2 hc4
    refine lv_iconst (v := 2) hx hb dX7_behind_13 (by decide) ?_
    refine lv_goto (tgt := 18) hx hb dX7_behind_14 (by decide) ?_
    refine lv_iadd hx hb dX7_behind_18 ?_
    refine lv_sipush (v := 255) hx hb dX7_behind_19 (by decide) ?_
    refine lv_iand hx hb dX7_behind_22 ?_
    exact sy_iret C hr hlocks hP hS hw dX7_behind_23
theorem mw_X7_other : MW yX7_other cX7_other 2 (some .int) 1 := ⟨w_927, w_8, by decide +kernel⟩
def wp_X7_other (a1 : Int32) (T : St) (post : Int32 → St → Prop) : Prop :=
  vp_in ((a1 + 1) &&& 255) 256 ∧ (post (((a1 + 2) + ((T.1 131 ((a1 + 1) &&& 255).toNatClampNeg).toInt8.toInt32)) &&& 255) T)
set_option maxHeartbeats 4000000 in
set_option maxRecDepth 100000 in
theorem m_X7_other (l : Launch) (G : Gm) (hi : Inj G) (a1 : Int32)  (T : St) (post : Int32 → St → Prop) (hw : wp_X7_other a1 T post) : Mi l yX7_other cX7_other 2 (some .int) 0 0 G [.ref (G.2.2 130), .int a1] T post := by
  refine sy_head hi (by decide) (Nat.le_of_ble_eq_true rfl) (lv := [(0, .ref (G.2.2 130)), (1, .int a1)]) rfl ?_
  intro p e s m below meth c C hr hlocks hP hS ls hl
  have C : Cx p s m _ c cX7_other 2 RX7 G := C
  obtain ⟨hx, hb, hml, hown, hg, hK, hN, -⟩ := id C
  unfold wp_X7_other at hw
  refine lv_iload_n hx hb dX7_other_0 rfl (lv_at hl 1 rfl) ?_
  refine lv_iconst (v := 2) hx hb dX7_other_1 (by decide) ?_
  refine lv_iadd hx hb dX7_other_2 ?_
  refine lv_aload_n hx hb dX7_other_3 rfl (lv_at hl 0 rfl) ?_
  refine gf_X7_7 C hP (o := 130) rfl dX7_other_4 ?_
  refine lv_iload_n hx hb dX7_other_7 rfl (lv_at hl 1 rfl) ?_
  refine lv_iconst (v := 1) hx hb dX7_other_8 (by decide) ?_
  refine lv_iadd hx hb dX7_other_9 ?_
  refine lv_sipush (v := 255) hx hb dX7_other_10 (by decide) ?_
  refine lv_iand hx hb dX7_other_13 ?_
  obtain ⟨hn1, hw⟩ := hw
  refine sy_iald C hP (o := 131) rfl rfl hn1 dX7_other_14 ?_
  refine lv_i2b hx hb dX7_other_15 rfl ?_
  refine lv_iadd hx hb dX7_other_16 ?_
  refine lv_sipush (v := 255) hx hb dX7_other_17 (by decide) ?_
  refine lv_iand hx hb dX7_other_20 ?_
  exact sy_iret C hr hlocks hP hS hw dX7_other_21
theorem mw_X7_find : MW yX7_find cX7_find 6 (some .boolean) 1 := ⟨w_916, w_8, by decide +kernel⟩
def wj_X7_find_231  (k26 : (Int32 × Int32 × Int32) → St → Prop) (j4_38 : Int32) (j5_39 : Int32) (s40 : Int32) (s41 : Int32) (T42 : St) (post : Int32 → St → Prop) : Prop :=
  (j4_38 = 0 → k26 (s41 + s40, 0, j5_39 + 1) T42) ∧ (¬ j4_38 = 0 → vp_in j5_39 256 ∧ ((2 ≤ T42.1 148 j5_39.toNatClampNeg → k26 (s41 + s40, 0, j5_39 + 1) T42) ∧ (¬ 2 ≤ T42.1 148 j5_39.toNatClampNeg → k26 (s41 + s40, 1, j5_39 + 1) T42)))
def wb_X7_find_207  (k26 : (Int32 × Int32 × Int32) → St → Prop) (v3_22 : Int32) (v4_23 : Int32) (v5_24 : Int32) (T25 : St) (post : Int32 → St → Prop) : Prop :=
 (256 ≤ v5_24 → (24 < v3_22 → post 0 T25) ∧ (¬ 24 < v3_22 → (v4_23 = 0 → post 0 T25) ∧ (¬ v4_23 = 0 → post 1 T25))) ∧ (¬ 256 ≤ v5_24 → vp_in v5_24 256 ∧ ((T25.1 146 v5_24.toNatClampNeg = 0 → wj_X7_find_231 k26 v4_23 v5_24 0 v3_22 T25 post) ∧ (¬ T25.1 146 v5_24.toNatClampNeg = 0 → wj_X7_find_231 k26 v4_23 v5_24 1 v3_22 T25 post)))
def wj_X7_find_165  (k50 : (Int32 × Int32) → St → Prop) (j2_81 : Int32) (j3_82 : Int32) (j4_83 : Int32) (T84 : St) (post : Int32 → St → Prop) : Prop :=
  (j4_83 < 6 → k50 (j2_81, j3_82 + 1) T84) ∧ (¬ j4_83 < 6 → (8 < j4_83 → k50 (j2_81, j3_82 + 1) T84) ∧ (¬ 8 < j4_83 → wp_X7_other j3_82 T84 (fun r88 T87 => vp_in r88 256 ∧ (k50 (j2_81, j3_82 + 1) (sv T87 146 (r88.toNatClampNeg) (vp_nar .boolean 1))))))
def wj_X7_find_140  (k50 : (Int32 × Int32) → St → Prop) (j2_72 : Int32) (j3_73 : Int32) (j4_74 : Int32) (s75 : Int32) (s76 : Int32) (s77 : Int32) (T78 : St) (post : Int32 → St → Prop) : Prop :=
  vp_in s77 256 ∧ ((j4_74 = 0 → wj_X7_find_165 k50 j2_72 j3_73 j4_74 (sv T78 148 (s77.toNatClampNeg) (s76 + s75)) post) ∧ (¬ j4_74 = 0 → (j4_74 = 6 → wj_X7_find_165 k50 j2_72 j3_73 j4_74 (sv T78 148 (s77.toNatClampNeg) (s76 + s75)) post) ∧ (¬ j4_74 = 6 → wp_X7_behind j3_73 (sv T78 148 (s77.toNatClampNeg) (s76 + s75)) (fun r93 T92 => vp_in r93 256 ∧ (wj_X7_find_165 k50 j2_72 j3_73 j4_74 (sv T92 146 (r93.toNatClampNeg) (vp_nar .boolean 1)) post)))))
def wb_X7_find_53 (k14 : Int32 → St → Prop) (k50 : (Int32 × Int32) → St → Prop) (v2_47 : Int32) (v3_48 : Int32) (T49 : St) (post : Int32 → St → Prop) : Prop :=
 (256 ≤ v3_48 → k14 v2_47 T49) ∧ (¬ 256 ≤ v3_48 → vp_in v3_48 256 ∧ ((T49.1 146 v3_48.toNatClampNeg = 0 → k50 (v2_47, v3_48 + 1) T49) ∧ (¬ T49.1 146 v3_48.toNatClampNeg = 0 → vp_in v3_48 256 ∧ ((¬ T49.1 147 v3_48.toNatClampNeg = 0 → k50 (v2_47, v3_48 + 1) T49) ∧ (T49.1 147 v3_48.toNatClampNeg = 0 → vp_in v3_48 256 ∧ (vp_in v3_48 256 ∧ (((sv T49 147 (v3_48.toNatClampNeg) (vp_nar .boolean 1)).1 131 v3_48.toNatClampNeg ≤ 12 → vp_in v3_48 256 ∧ (vp_in v3_48 256 ∧ (∀ T67 : St, T67 = sv (sv T49 147 (v3_48.toNatClampNeg) (vp_nar .boolean 1)) 148 (v3_48.toNatClampNeg) (((sv T49 147 (v3_48.toNatClampNeg) (vp_nar .boolean 1)).1 148 v3_48.toNatClampNeg) + 1) → (vp_in ((v3_48 + 1) &&& 255) 256 ∧ (wp_X7_isLong ((sv T49 147 (v3_48.toNatClampNeg) (vp_nar .boolean 1)).1 131 v3_48.toNatClampNeg) T67 (fun r70 T69 => (r70 = 0 → wj_X7_find_140 k50 1 v3_48 ((sv T49 147 (v3_48.toNatClampNeg) (vp_nar .boolean 1)).1 131 v3_48.toNatClampNeg) 0 (T67.1 148 ((v3_48 + 1) &&& 255).toNatClampNeg) ((v3_48 + 1) &&& 255) T69 post) ∧ (¬ r70 = 0 → wj_X7_find_140 k50 1 v3_48 ((sv T49 147 (v3_48.toNatClampNeg) (vp_nar .boolean 1)).1 131 v3_48.toNatClampNeg) 1 (T67.1 148 ((v3_48 + 1) &&& 255).toNatClampNeg) ((v3_48 + 1) &&& 255) T69 post))))))) ∧ (¬ (sv T49 147 (v3_48.toNatClampNeg) (vp_nar .boolean 1)).1 131 v3_48.toNatClampNeg ≤ 12 → post 0 (sv T49 147 (v3_48.toNatClampNeg) (vp_nar .boolean 1))))))))))
def wb_X7_find_45  (k14 : (Int32) → St → Prop) (v2_12 : Int32) (T13 : St) (post : Int32 → St → Prop) : Prop :=
 (v2_12 = 0 → LW (fun kl (vl : Int32 × Int32 × Int32) Tl => wb_X7_find_207 kl vl.1 vl.2.1 vl.2.2 Tl post) (0, 1, 0) T13) ∧ (¬ v2_12 = 0 → LW (fun kl (vl : Int32 × Int32) Tl => wb_X7_find_53 k14 kl vl.1 vl.2 Tl post) (0, 0) T13)
def wb_X7_find_2 (a1 : Int32) (k3 : (Int32) → St → Prop) (v2_1 : Int32) (T2 : St) (post : Int32 → St → Prop) : Prop :=
 (256 ≤ v2_1 → vp_in a1 256 ∧ (LW (fun kl (vl : Int32) Tl => wb_X7_find_45 kl vl Tl post) 1 (sv T2 146 (a1.toNatClampNeg) (vp_nar .boolean 1)))) ∧ (¬ 256 ≤ v2_1 → vp_in v2_1 256 ∧ (vp_in v2_1 256 ∧ (vp_in v2_1 256 ∧ (∀ T99 : St, T99 = sv (sv (sv T2 146 (v2_1.toNatClampNeg) (vp_nar .boolean 0)) 147 (v2_1.toNatClampNeg) (vp_nar .boolean 0)) 148 (v2_1.toNatClampNeg) 0 → (k3 (v2_1 + 1) T99)))))
def wp_X7_find (a1 : Int32) (T : St) (post : Int32 → St → Prop) : Prop :=
  LW (fun kl (vl : Int32) Tl => wb_X7_find_2 a1 kl vl Tl post) 0 T
set_option maxHeartbeats 4000000 in
set_option maxRecDepth 100000 in
theorem m_X7_find (l : Launch) (G : Gm) (hi : Inj G) (a1 : Int32)  (T : St) (post : Int32 → St → Prop) (hw : wp_X7_find a1 T post) : Mi l yX7_find cX7_find 6 (some .boolean) 2 41 G [.ref (G.2.2 130), .int a1] T post := by
  refine sy_head hi (by decide) (Nat.le_of_ble_eq_true rfl) (lv := [(0, .ref (G.2.2 130)), (1, .int a1)]) rfl ?_
  intro p e s m below meth c C hr hlocks hP hS ls hl
  have C : Cx p s m _ c cX7_find 6 RX7 G := C
  obtain ⟨hx, hb, hml, hown, hg, hK, hN, -⟩ := id C
  unfold wp_X7_find at hw
  refine lv_iconst (v := 0) hx hb dX7_find_0 (by decide) ?_
  refine lv_istore_n (lv' := [(2, .int 0), (0, .ref (G.2.2 130)), (1, .int a1)]) hx hb dX7_find_1 rfl hl (by decide) rfl (fun ls hl => ?_)
  obtain ⟨I4, u5, hI, hst6⟩ := hw
  have L9 : ∀ (n : Nat) (v2_1 : Int32) (T2 : St), I4 v2_1 T2 → u5 v2_1 T2 < n → ∀ (H : Heap) (locs : List Loc), va_P G.1 sc_cl (wd G T2) H → va_S (SA G) s.heap H locs → ∀ ls : Array Slot, lv_has ls 6 [(2, .int v2_1), (0, .ref (G.2.2 130)), (1, .int a1)] → W p l e { frames := 2, cells := 0, slots := 0, locals := 41 } s m ([.ref (G.2.2 130), .int a1] : List Value).toArray below meth c H locs 0 0 (MQ below (va_Qi post (Sy G) (SA G)) ([.ref (G.2.2 130), .int a1] : List Value).toArray s 0 0 (SA G)) (F0 m 2 ls []) := by
    intro n
    induction n with
    | zero => intro _ _ _ h; exact absurd h (Nat.not_lt_zero _)
    | succ n ih7 =>
      intro v2_1 T2 hI hlt8 H locs hP hS ls hl
      have hw := hst6 v2_1 T2 hI
      unfold wb_X7_find_2 at hw
      refine lv_iload_n hx hb dX7_find_2 rfl (lv_at hl 0 rfl) ?_
      refine lv_sipush (v := 256) hx hb dX7_find_3 (by decide) ?_
      refine lv_icmp_ge (tgt := 36) hx hb dX7_find_6 (by decide) (fun hc10 => ?_) (fun hc10 => ?_)
      · have hw := hw.1 hc10
        refine lv_aload_n hx hb dX7_find_36 rfl (lv_at hl 1 rfl) ?_
        refine gf_X7_56 C hP (o := 130) rfl dX7_find_37 ?_
        refine lv_iload_n hx hb dX7_find_40 rfl (lv_at hl 2 rfl) ?_
        refine lv_iconst (v := 1) hx hb dX7_find_41 (by decide) ?_
        obtain ⟨hn11, hw⟩ := hw
        refine sy_zast C hP hS (fun _ h => h) (o := 146) rfl rfl hn11 dX7_find_42 (fun H locs hP hS => ?_)
        refine lv_iconst (v := 1) hx hb dX7_find_43 (by decide) ?_
        refine lv_istore_n (lv' := [(2, .int 1), (0, .ref (G.2.2 130)), (1, .int a1)]) hx hb dX7_find_44 rfl hl (by decide) rfl (fun ls hl => ?_)
        obtain ⟨I15, u16, hI, hst17⟩ := hw
        have L20 : ∀ (n : Nat) (v2_12 : Int32) (T13 : St), I15 v2_12 T13 → u16 v2_12 T13 < n → ∀ (H : Heap) (locs : List Loc), va_P G.1 sc_cl (wd G T13) H → va_S (SA G) s.heap H locs → ∀ ls : Array Slot, lv_has ls 6 [(2, .int v2_12), (0, .ref (G.2.2 130))] → W p l e { frames := 2, cells := 0, slots := 0, locals := 41 } s m ([.ref (G.2.2 130), .int a1] : List Value).toArray below meth c H locs 0 0 (MQ below (va_Qi post (Sy G) (SA G)) ([.ref (G.2.2 130), .int a1] : List Value).toArray s 0 0 (SA G)) (F0 m 45 ls []) := by
          intro n
          induction n with
          | zero => intro _ _ _ h; exact absurd h (Nat.not_lt_zero _)
          | succ n ih18 =>
            intro v2_12 T13 hI hlt19 H locs hP hS ls hl
            have hw := hst17 v2_12 T13 hI
            unfold wb_X7_find_45 at hw
            refine lv_iload_n hx hb dX7_find_45 rfl (lv_at hl 0 rfl) ?_
            refine lv_if_eq (tgt := 199) hx hb dX7_find_46 (by decide) (fun hc21 => ?_) (fun hc21 => ?_)
            · have hw := hw.1 hc21
              refine lv_iconst (v := 0) hx hb dX7_find_199 (by decide) ?_
              refine lv_istore_n (lv' := [(3, .int 0), (2, .int v2_12), (0, .ref (G.2.2 130))]) hx hb dX7_find_200 rfl hl (by decide) rfl (fun ls hl => ?_)
              refine lv_iconst (v := 1) hx hb dX7_find_201 (by decide) ?_
              refine lv_istore (lv' := [(4, .int 1), (3, .int 0), (2, .int v2_12), (0, .ref (G.2.2 130))]) hx hb dX7_find_202 hl (by decide) rfl (fun ls hl => ?_)
              refine lv_iconst (v := 0) hx hb dX7_find_204 (by decide) ?_
              refine lv_istore (lv' := [(5, .int 0), (4, .int 1), (3, .int 0), (2, .int v2_12), (0, .ref (G.2.2 130))]) hx hb dX7_find_205 hl (by decide) rfl (fun ls hl => ?_)
              obtain ⟨I27, u28, hI, hst29⟩ := hw
              have L32 : ∀ (n : Nat) (v3_22 : Int32) (v4_23 : Int32) (v5_24 : Int32) (T25 : St), I27 (v3_22, v4_23, v5_24) T25 → u28 (v3_22, v4_23, v5_24) T25 < n → ∀ (H : Heap) (locs : List Loc), va_P G.1 sc_cl (wd G T25) H → va_S (SA G) s.heap H locs → ∀ ls : Array Slot, lv_has ls 6 [(5, .int v5_24), (4, .int v4_23), (3, .int v3_22), (0, .ref (G.2.2 130))] → W p l e { frames := 2, cells := 0, slots := 0, locals := 41 } s m ([.ref (G.2.2 130), .int a1] : List Value).toArray below meth c H locs 0 0 (MQ below (va_Qi post (Sy G) (SA G)) ([.ref (G.2.2 130), .int a1] : List Value).toArray s 0 0 (SA G)) (F0 m 207 ls []) := by
                intro n
                induction n with
                | zero => intro _ _ _ _ _ h; exact absurd h (Nat.not_lt_zero _)
                | succ n ih30 =>
                  intro v3_22 v4_23 v5_24 T25 hI hlt31 H locs hP hS ls hl
                  have hw := hst29 (v3_22, v4_23, v5_24) T25 hI
                  unfold wb_X7_find_207 at hw
                  have J46 : ∀ (j4_38 : Int32) (j5_39 : Int32) (s40 : Int32) (s41 : Int32) (T42 : St), wj_X7_find_231  (fun v' T' => I27 v' T' ∧ u28 v' T' < u28 (v3_22, v4_23, v5_24) T25) j4_38 j5_39 s40 s41 T42 post → ∀ (H : Heap) (locs : List Loc), va_P G.1 sc_cl (wd G T42) H → va_S (SA G) s.heap H locs → ∀ ls : Array Slot, lv_has ls 6 [(0, .ref (G.2.2 130)), (4, .int j4_38), (5, .int j5_39)] → W p l e { frames := 2, cells := 0, slots := 0, locals := 41 } s m ([.ref (G.2.2 130), .int a1] : List Value).toArray below meth c H locs 0 0 (MQ below (va_Qi post (Sy G) (SA G)) ([.ref (G.2.2 130), .int a1] : List Value).toArray s 0 0 (SA G)) (F0 m 231 ls [.int s40, .int s41]) := by
                    intro j4_38 j5_39 s40 s41 T42  hw H locs hP hS ls hl
                    unfold wj_X7_find_231 at hw
                    refine lv_iadd hx hb dX7_find_231 ?_
                    refine lv_istore_n (lv' := [(3, .int (s41 + s40)), (0, .ref (G.2.2 130)), (4, .int j4_38), (5, .int j5_39)]) hx hb dX7_find_232 rfl hl (by decide) rfl (fun ls hl => ?_)
                    refine lv_iload hx hb dX7_find_233 (lv_at hl 2 rfl) ?_
                    refine lv_if_eq (tgt := 253) hx hb dX7_find_235 (by decide) (fun hc43 => ?_) (fun hc43 => ?_)
                    · have hw := hw.1 hc43
                      refine lv_iconst (v := 0) hx hb dX7_find_253 (by decide) ?_
                      refine lv_istore (lv' := [(4, .int 0), (3, .int (s41 + s40)), (0, .ref (G.2.2 130)), (5, .int j5_39)]) hx hb dX7_find_254 hl (by decide) rfl (fun ls hl => ?_)
                      refine lv_iinc (v := j5_39 + 1) (lv' := [(5, .int (j5_39 + 1)), (4, .int 0), (3, .int (s41 + s40)), (0, .ref (G.2.2 130))]) hx hb dX7_find_256 hl (k := 3) rfl rfl (by decide) rfl (fun ls hl => ?_)
                      refine lv_goto (tgt := 207) hx hb dX7_find_259 (by decide) ?_
                      exact ih30 _ _ _ _ hw.1 (Nat.lt_of_lt_of_le hw.2 (Nat.le_of_lt_succ hlt31)) _ _ hP hS ls (lv_sub hl [0, 1, 2, 3] rfl)
                    · have hw := hw.2 hc43
                      refine lv_aload_n hx hb dX7_find_238 rfl (lv_at hl 1 rfl) ?_
                      refine gf_X7_62 C hP (o := 130) rfl dX7_find_239 ?_
                      refine lv_iload hx hb dX7_find_242 (lv_at hl 3 rfl) ?_
                      obtain ⟨hn44, hw⟩ := hw
                      refine sy_iald C hP (o := 148) rfl rfl hn44 dX7_find_244 ?_
                      refine lv_iconst (v := 2) hx hb dX7_find_245 (by decide) ?_
                      refine lv_icmp_ge (tgt := 253) hx hb dX7_find_246 (by decide) (fun hc45 => ?_) (fun hc45 => ?_)
                      · have hw := hw.1 hc45
                        refine lv_iconst (v := 0) hx hb dX7_find_253 (by decide) ?_
                        refine lv_istore (lv' := [(4, .int 0), (3, .int (s41 + s40)), (0, .ref (G.2.2 130)), (5, .int j5_39)]) hx hb dX7_find_254 hl (by decide) rfl (fun ls hl => ?_)
                        refine lv_iinc (v := j5_39 + 1) (lv' := [(5, .int (j5_39 + 1)), (4, .int 0), (3, .int (s41 + s40)), (0, .ref (G.2.2 130))]) hx hb dX7_find_256 hl (k := 3) rfl rfl (by decide) rfl (fun ls hl => ?_)
                        refine lv_goto (tgt := 207) hx hb dX7_find_259 (by decide) ?_
                        exact ih30 _ _ _ _ hw.1 (Nat.lt_of_lt_of_le hw.2 (Nat.le_of_lt_succ hlt31)) _ _ hP hS ls (lv_sub hl [0, 1, 2, 3] rfl)
                      · have hw := hw.2 hc45
                        refine lv_iconst (v := 1) hx hb dX7_find_249 (by decide) ?_
                        refine lv_goto (tgt := 254) hx hb dX7_find_250 (by decide) ?_
                        refine lv_istore (lv' := [(4, .int 1), (3, .int (s41 + s40)), (0, .ref (G.2.2 130)), (5, .int j5_39)]) hx hb dX7_find_254 hl (by decide) rfl (fun ls hl => ?_)
                        refine lv_iinc (v := j5_39 + 1) (lv' := [(5, .int (j5_39 + 1)), (4, .int 1), (3, .int (s41 + s40)), (0, .ref (G.2.2 130))]) hx hb dX7_find_256 hl (k := 3) rfl rfl (by decide) rfl (fun ls hl => ?_)
                        refine lv_goto (tgt := 207) hx hb dX7_find_259 (by decide) ?_
                        exact ih30 _ _ _ _ hw.1 (Nat.lt_of_lt_of_le hw.2 (Nat.le_of_lt_succ hlt31)) _ _ hP hS ls (lv_sub hl [0, 1, 2, 3] rfl)
                  refine lv_iload hx hb dX7_find_207 (lv_at hl 0 rfl) ?_
                  refine lv_sipush (v := 256) hx hb dX7_find_209 (by decide) ?_
                  refine lv_icmp_ge (tgt := 262) hx hb dX7_find_212 (by decide) (fun hc33 => ?_) (fun hc33 => ?_)
                  · have hw := hw.1 hc33
                    refine lv_iload_n hx hb dX7_find_262 rfl (lv_at hl 2 rfl) ?_
                    refine lv_bipush (v := 24) hx hb dX7_find_263 (by decide) ?_
                    refine lv_icmp_gt (tgt := 277) hx hb dX7_find_265 (by decide) (fun hc34 => ?_) (fun hc34 => ?_)
                    · have hw := hw.1 hc34
                      refine lv_iconst (v := 0) hx hb dX7_find_277 (by decide) ?_
                      exact sy_zret C hr hlocks hP hS rfl hw dX7_find_278
                    · have hw := hw.2 hc34
                      refine lv_iload hx hb dX7_find_268 (lv_at hl 1 rfl) ?_
                      refine lv_if_eq (tgt := 277) hx hb dX7_find_270 (by decide) (fun hc35 => ?_) (fun hc35 => ?_)
                      · have hw := hw.1 hc35
                        refine lv_iconst (v := 0) hx hb dX7_find_277 (by decide) ?_
                        exact sy_zret C hr hlocks hP hS rfl hw dX7_find_278
                      · have hw := hw.2 hc35
                        refine lv_iconst (v := 1) hx hb dX7_find_273 (by decide) ?_
                        refine lv_goto (tgt := 278) hx hb dX7_find_274 (by decide) ?_
                        exact sy_zret C hr hlocks hP hS rfl hw dX7_find_278
                  · have hw := hw.2 hc33
                    refine lv_iload_n hx hb dX7_find_215 rfl (lv_at hl 2 rfl) ?_
                    refine lv_aload_n hx hb dX7_find_216 rfl (lv_at hl 3 rfl) ?_
                    refine gf_X7_56 C hP (o := 130) rfl dX7_find_217 ?_
                    refine lv_iload hx hb dX7_find_220 (lv_at hl 0 rfl) ?_
                    obtain ⟨hn36, hw⟩ := hw
                    refine sy_zald C hP (o := 146) rfl rfl hn36 dX7_find_222 ?_
                    refine lv_if_eq (tgt := 230) hx hb dX7_find_223 (by decide) (fun hc37 => ?_) (fun hc37 => ?_)
                    · have hw := hw.1 hc37
                      refine lv_iconst (v := 0) hx hb dX7_find_230 (by decide) ?_
                      exact J46 _ _ _ _ _  hw _ _ hP hS ls (lv_sub hl [3, 1, 0] rfl)
                    · have hw := hw.2 hc37
                      refine lv_iconst (v := 1) hx hb dX7_find_226 (by decide) ?_
                      refine lv_goto (tgt := 231) hx hb dX7_find_227 (by decide) ?_
                      exact J46 _ _ _ _ _  hw _ _ hP hS ls (lv_sub hl [3, 1, 0] rfl)
              exact L32 _ _ _ _ _ hI (Nat.lt_succ_self _) _ _ hP hS ls (lv_sub hl [0, 1, 2, 4] rfl)
            · have hw := hw.2 hc21
              refine lv_iconst (v := 0) hx hb dX7_find_49 (by decide) ?_
              refine lv_istore_n (lv' := [(2, .int 0), (0, .ref (G.2.2 130))]) hx hb dX7_find_50 rfl hl (by decide) rfl (fun ls hl => ?_)
              refine lv_iconst (v := 0) hx hb dX7_find_51 (by decide) ?_
              refine lv_istore_n (lv' := [(3, .int 0), (2, .int 0), (0, .ref (G.2.2 130))]) hx hb dX7_find_52 rfl hl (by decide) rfl (fun ls hl => ?_)
              obtain ⟨I51, u52, hI, hst53⟩ := hw
              have L56 : ∀ (n : Nat) (v2_47 : Int32) (v3_48 : Int32) (T49 : St), I51 (v2_47, v3_48) T49 → u52 (v2_47, v3_48) T49 < n → ∀ (H : Heap) (locs : List Loc), va_P G.1 sc_cl (wd G T49) H → va_S (SA G) s.heap H locs → ∀ ls : Array Slot, lv_has ls 6 [(3, .int v3_48), (2, .int v2_47), (0, .ref (G.2.2 130))] → W p l e { frames := 2, cells := 0, slots := 0, locals := 41 } s m ([.ref (G.2.2 130), .int a1] : List Value).toArray below meth c H locs 0 0 (MQ below (va_Qi post (Sy G) (SA G)) ([.ref (G.2.2 130), .int a1] : List Value).toArray s 0 0 (SA G)) (F0 m 53 ls []) := by
                intro n
                induction n with
                | zero => intro _ _ _ _ h; exact absurd h (Nat.not_lt_zero _)
                | succ n ih54 =>
                  intro v2_47 v3_48 T49 hI hlt55 H locs hP hS ls hl
                  have hw := hst53 (v2_47, v3_48) T49 hI
                  unfold wb_X7_find_53 at hw
                  have J90 : ∀ (j2_81 : Int32) (j3_82 : Int32) (j4_83 : Int32) (T84 : St), wj_X7_find_165  (fun v' T' => I51 v' T' ∧ u52 v' T' < u52 (v2_47, v3_48) T49) j2_81 j3_82 j4_83 T84 post → ∀ (H : Heap) (locs : List Loc), va_P G.1 sc_cl (wd G T84) H → va_S (SA G) s.heap H locs → ∀ ls : Array Slot, lv_has ls 6 [(0, .ref (G.2.2 130)), (2, .int j2_81), (3, .int j3_82), (4, .int j4_83)] → W p l e { frames := 2, cells := 0, slots := 0, locals := 41 } s m ([.ref (G.2.2 130), .int a1] : List Value).toArray below meth c H locs 0 0 (MQ below (va_Qi post (Sy G) (SA G)) ([.ref (G.2.2 130), .int a1] : List Value).toArray s 0 0 (SA G)) (F0 m 165 ls []) := by
                    intro j2_81 j3_82 j4_83 T84  hw H locs hP hS ls hl
                    unfold wj_X7_find_165 at hw
                    refine lv_iload hx hb dX7_find_165 (lv_at hl 3 rfl) ?_
                    refine lv_bipush (v := 6) hx hb dX7_find_167 (by decide) ?_
                    refine lv_icmp_lt (tgt := 190) hx hb dX7_find_169 (by decide) (fun hc85 => ?_) (fun hc85 => ?_)
                    · have hw := hw.1 hc85
                      refine lv_iinc (v := j3_82 + 1) (lv' := [(3, .int (j3_82 + 1)), (0, .ref (G.2.2 130)), (2, .int j2_81), (4, .int j4_83)]) hx hb dX7_find_190 hl (k := 2) rfl rfl (by decide) rfl (fun ls hl => ?_)
                      refine lv_goto (tgt := 53) hx hb dX7_find_193 (by decide) ?_
                      exact ih54 _ _ _ hw.1 (Nat.lt_of_lt_of_le hw.2 (Nat.le_of_lt_succ hlt55)) _ _ hP hS ls (lv_sub hl [0, 2, 1] rfl)
                    · have hw := hw.2 hc85
                      refine lv_iload hx hb dX7_find_172 (lv_at hl 3 rfl) ?_
                      refine lv_bipush (v := 8) hx hb dX7_find_174 (by decide) ?_
                      refine lv_icmp_gt (tgt := 190) hx hb dX7_find_176 (by decide) (fun hc86 => ?_) (fun hc86 => ?_)
                      · have hw := hw.1 hc86
                        refine lv_iinc (v := j3_82 + 1) (lv' := [(3, .int (j3_82 + 1)), (0, .ref (G.2.2 130)), (2, .int j2_81), (4, .int j4_83)]) hx hb dX7_find_190 hl (k := 2) rfl rfl (by decide) rfl (fun ls hl => ?_)
                        refine lv_goto (tgt := 53) hx hb dX7_find_193 (by decide) ?_
                        exact ih54 _ _ _ hw.1 (Nat.lt_of_lt_of_le hw.2 (Nat.le_of_lt_succ hlt55)) _ _ hP hS ls (lv_sub hl [0, 2, 1] rfl)
                      · have hw := hw.2 hc86
                        refine lv_aload_n hx hb dX7_find_179 rfl (lv_at hl 0 rfl) ?_
                        refine gf_X7_56 C hP (o := 130) rfl dX7_find_180 ?_
                        refine lv_aload_n hx hb dX7_find_183 rfl (lv_at hl 0 rfl) ?_
                        refine lv_iload_n hx hb dX7_find_184 rfl (lv_at hl 2 rfl) ?_
                        refine sy_goi (sy_runV C hP rfl rfl (m_X7_other l G hi _ _ _ hw) mw_X7_other w_926 ws_32 w_924 (rest := [.ref (G.2.2 146)]) rfl hl.1 rfl (Nat.le_of_ble_eq_true rfl) ⟨Nat.le_of_ble_eq_true rfl, Nat.le_of_ble_eq_true rfl⟩ dX7_find_185 ⟨Nat.zero_le _, Nat.zero_le _⟩) hS (fun _ h => h) (fun r88 T87 H locs hw hP hS => ?_)
                        refine lv_iconst (v := 1) hx hb dX7_find_188 (by decide) ?_
                        obtain ⟨hn89, hw⟩ := hw
                        refine sy_zast C hP hS (fun _ h => h) (o := 146) rfl rfl hn89 dX7_find_189 (fun H locs hP hS => ?_)
                        refine lv_iinc (v := j3_82 + 1) (lv' := [(3, .int (j3_82 + 1)), (0, .ref (G.2.2 130)), (2, .int j2_81), (4, .int j4_83)]) hx hb dX7_find_190 hl (k := 2) rfl rfl (by decide) rfl (fun ls hl => ?_)
                        refine lv_goto (tgt := 53) hx hb dX7_find_193 (by decide) ?_
                        exact ih54 _ _ _ hw.1 (Nat.lt_of_lt_of_le hw.2 (Nat.le_of_lt_succ hlt55)) _ _ hP hS ls (lv_sub hl [0, 2, 1] rfl)
                  have J95 : ∀ (j2_72 : Int32) (j3_73 : Int32) (j4_74 : Int32) (s75 : Int32) (s76 : Int32) (s77 : Int32) (T78 : St), wj_X7_find_140  (fun v' T' => I51 v' T' ∧ u52 v' T' < u52 (v2_47, v3_48) T49) j2_72 j3_73 j4_74 s75 s76 s77 T78 post → ∀ (H : Heap) (locs : List Loc), va_P G.1 sc_cl (wd G T78) H → va_S (SA G) s.heap H locs → ∀ ls : Array Slot, lv_has ls 6 [(0, .ref (G.2.2 130)), (2, .int j2_72), (3, .int j3_73), (4, .int j4_74)] → W p l e { frames := 2, cells := 0, slots := 0, locals := 41 } s m ([.ref (G.2.2 130), .int a1] : List Value).toArray below meth c H locs 0 0 (MQ below (va_Qi post (Sy G) (SA G)) ([.ref (G.2.2 130), .int a1] : List Value).toArray s 0 0 (SA G)) (F0 m 140 ls [.int s75, .int s76, .int s77, .ref (G.2.2 148)]) := by
                    intro j2_72 j3_73 j4_74 s75 s76 s77 T78  hw H locs hP hS ls hl
                    unfold wj_X7_find_140 at hw
                    refine lv_iadd hx hb dX7_find_140 ?_
                    obtain ⟨hn79, hw⟩ := hw
                    refine sy_iast C hP hS (fun _ h => h) (o := 148) rfl rfl hn79 dX7_find_141 (fun H locs hP hS => ?_)
                    refine lv_iload hx hb dX7_find_142 (lv_at hl 3 rfl) ?_
                    refine lv_if_eq (tgt := 165) hx hb dX7_find_144 (by decide) (fun hc80 => ?_) (fun hc80 => ?_)
                    · have hw := hw.1 hc80
                      exact J90 _ _ _ _  hw _ _ hP hS ls (lv_sub hl [0, 1, 2, 3] rfl)
                    · have hw := hw.2 hc80
                      refine lv_iload hx hb dX7_find_147 (lv_at hl 3 rfl) ?_
                      refine lv_bipush (v := 6) hx hb dX7_find_149 (by decide) ?_
                      refine lv_icmp_eq (tgt := 165) hx hb dX7_find_151 (by decide) (fun hc91 => ?_) (fun hc91 => ?_)
                      · have hw := hw.1 hc91
                        exact J90 _ _ _ _  hw _ _ hP hS ls (lv_sub hl [0, 1, 2, 3] rfl)
                      · have hw := hw.2 hc91
                        refine lv_aload_n hx hb dX7_find_154 rfl (lv_at hl 0 rfl) ?_
                        refine gf_X7_56 C hP (o := 130) rfl dX7_find_155 ?_
                        refine lv_aload_n hx hb dX7_find_158 rfl (lv_at hl 0 rfl) ?_
                        refine lv_iload_n hx hb dX7_find_159 rfl (lv_at hl 2 rfl) ?_
                        refine sy_goi (sy_runV C hP rfl rfl (m_X7_behind l G hi _ _ _ hw) mw_X7_behind w_922 ws_31 w_920 (rest := [.ref (G.2.2 146)]) rfl hl.1 rfl (Nat.le_of_ble_eq_true rfl) ⟨Nat.le_of_ble_eq_true rfl, Nat.le_of_ble_eq_true rfl⟩ dX7_find_160 ⟨Nat.zero_le _, Nat.zero_le _⟩) hS (fun _ h => h) (fun r93 T92 H locs hw hP hS => ?_)
                        refine lv_iconst (v := 1) hx hb dX7_find_163 (by decide) ?_
                        obtain ⟨hn94, hw⟩ := hw
                        refine sy_zast C hP hS (fun _ h => h) (o := 146) rfl rfl hn94 dX7_find_164 (fun H locs hP hS => ?_)
                        exact J90 _ _ _ _  hw _ _ hP hS ls (lv_sub hl [0, 1, 2, 3] rfl)
                  refine lv_iload_n hx hb dX7_find_53 rfl (lv_at hl 0 rfl) ?_
                  refine lv_sipush (v := 256) hx hb dX7_find_54 (by decide) ?_
                  refine lv_icmp_ge (tgt := 196) hx hb dX7_find_57 (by decide) (fun hc57 => ?_) (fun hc57 => ?_)
                  · have hw := hw.1 hc57
                    refine lv_goto (tgt := 45) hx hb dX7_find_196 (by decide) ?_
                    exact ih18 _ _ hw.1 (Nat.lt_of_lt_of_le hw.2 (Nat.le_of_lt_succ hlt19)) _ _ hP hS ls (lv_sub hl [1, 2] rfl)
                  · have hw := hw.2 hc57
                    refine lv_aload_n hx hb dX7_find_60 rfl (lv_at hl 2 rfl) ?_
                    refine gf_X7_56 C hP (o := 130) rfl dX7_find_61 ?_
                    refine lv_iload_n hx hb dX7_find_64 rfl (lv_at hl 0 rfl) ?_
                    obtain ⟨hn58, hw⟩ := hw
                    refine sy_zald C hP (o := 146) rfl rfl hn58 dX7_find_65 ?_
                    refine lv_if_eq (tgt := 190) hx hb dX7_find_66 (by decide) (fun hc59 => ?_) (fun hc59 => ?_)
                    · have hw := hw.1 hc59
                      refine lv_iinc (v := v3_48 + 1) (lv' := [(3, .int (v3_48 + 1)), (2, .int v2_47), (0, .ref (G.2.2 130))]) hx hb dX7_find_190 hl (k := 0) rfl rfl (by decide) rfl (fun ls hl => ?_)
                      refine lv_goto (tgt := 53) hx hb dX7_find_193 (by decide) ?_
                      exact ih54 _ _ _ hw.1 (Nat.lt_of_lt_of_le hw.2 (Nat.le_of_lt_succ hlt55)) _ _ hP hS ls (lv_sub hl [0, 1, 2] rfl)
                    · have hw := hw.2 hc59
                      refine lv_aload_n hx hb dX7_find_69 rfl (lv_at hl 2 rfl) ?_
                      refine gf_X7_59 C hP (o := 130) rfl dX7_find_70 ?_
                      refine lv_iload_n hx hb dX7_find_73 rfl (lv_at hl 0 rfl) ?_
                      obtain ⟨hn60, hw⟩ := hw
                      refine sy_zald C hP (o := 147) rfl rfl hn60 dX7_find_74 ?_
                      refine lv_if_ne (tgt := 190) hx hb dX7_find_75 (by decide) (fun hc61 => ?_) (fun hc61 => ?_)
                      · have hw := hw.1 hc61
                        refine lv_iinc (v := v3_48 + 1) (lv' := [(3, .int (v3_48 + 1)), (2, .int v2_47), (0, .ref (G.2.2 130))]) hx hb dX7_find_190 hl (k := 0) rfl rfl (by decide) rfl (fun ls hl => ?_)
                        refine lv_goto (tgt := 53) hx hb dX7_find_193 (by decide) ?_
                        exact ih54 _ _ _ hw.1 (Nat.lt_of_lt_of_le hw.2 (Nat.le_of_lt_succ hlt55)) _ _ hP hS ls (lv_sub hl [0, 1, 2] rfl)
                      · have hw := hw.2 hc61
                        refine lv_aload_n hx hb dX7_find_78 rfl (lv_at hl 2 rfl) ?_
                        refine gf_X7_59 C hP (o := 130) rfl dX7_find_79 ?_
                        refine lv_iload_n hx hb dX7_find_82 rfl (lv_at hl 0 rfl) ?_
                        refine lv_iconst (v := 1) hx hb dX7_find_83 (by decide) ?_
                        obtain ⟨hn62, hw⟩ := hw
                        refine sy_zast C hP hS (fun _ h => h) (o := 147) rfl rfl hn62 dX7_find_84 (fun H locs hP hS => ?_)
                        refine lv_iconst (v := 1) hx hb dX7_find_85 (by decide) ?_
                        refine lv_istore_n (lv' := [(2, .int 1), (3, .int v3_48), (0, .ref (G.2.2 130))]) hx hb dX7_find_86 rfl hl (by decide) rfl (fun ls hl => ?_)
                        refine lv_aload_n hx hb dX7_find_87 rfl (lv_at hl 2 rfl) ?_
                        refine gf_X7_7 C hP (o := 130) rfl dX7_find_88 ?_
                        refine lv_iload_n hx hb dX7_find_91 rfl (lv_at hl 1 rfl) ?_
                        obtain ⟨hn63, hw⟩ := hw
                        refine sy_iald C hP (o := 131) rfl rfl hn63 dX7_find_92 ?_
                        refine lv_istore (lv' := [(4, .int ((sv T49 147 (v3_48.toNatClampNeg) (vp_nar .boolean 1)).1 131 v3_48.toNatClampNeg)), (2, .int 1), (3, .int v3_48), (0, .ref (G.2.2 130))]) hx hb dX7_find_93 hl (by decide) rfl (fun ls hl => ?_)
                        refine lv_iload hx hb dX7_find_95 (lv_at hl 0 rfl) ?_
                        refine lv_bipush (v := 12) hx hb dX7_find_97 (by decide) ?_
                        refine lv_icmp_le (tgt := 104) hx hb dX7_find_99 (by decide) (fun hc64 => ?_) (fun hc64 => ?_)
                        · have hw := hw.1 hc64
                          refine lv_aload_n hx hb dX7_find_104 rfl (lv_at hl 3 rfl) ?_
                          refine gf_X7_62 C hP (o := 130) rfl dX7_find_105 ?_
                          refine lv_iload_n hx hb dX7_find_108 rfl (lv_at hl 2 rfl) ?_
                          refine lv_dup2_11 hx hb dX7_find_109 rfl rfl ?_
                          obtain ⟨hn65, hw⟩ := hw
                          refine sy_iald C hP (o := 148) rfl rfl hn65 dX7_find_110 ?_
                          refine lv_iconst (v := 1) hx hb dX7_find_111 (by decide) ?_
                          refine lv_iadd hx hb dX7_find_112 ?_
                          obtain ⟨hn66, hw⟩ := hw
                          refine sy_iast C hP hS (fun _ h => h) (o := 148) rfl rfl hn66 dX7_find_113 (fun H locs hP hS => ?_)
                          obtain ⟨T67, eT67, hP⟩ := nameT (P := fun T => va_P G.1 sc_cl (wd G T) H) hP
                          have hw := hw T67 eT67
                          refine lv_aload_n hx hb dX7_find_114 rfl (lv_at hl 3 rfl) ?_
                          refine gf_X7_62 C hP (o := 130) rfl dX7_find_115 ?_
                          refine lv_iload_n hx hb dX7_find_118 rfl (lv_at hl 2 rfl) ?_
                          refine lv_iconst (v := 1) hx hb dX7_find_119 (by decide) ?_
                          refine lv_iadd hx hb dX7_find_120 ?_
                          refine lv_sipush (v := 255) hx hb dX7_find_121 (by decide) ?_
                          refine lv_iand hx hb dX7_find_124 ?_
                          refine lv_dup2_11 hx hb dX7_find_125 rfl rfl ?_
                          obtain ⟨hn68, hw⟩ := hw
                          refine sy_iald C hP (o := 148) rfl rfl hn68 dX7_find_126 ?_
                          refine lv_iload hx hb dX7_find_127 (lv_at hl 0 rfl) ?_
                          refine sy_goi (sy_runS C hP (m_X7_isLong l G hi _ _ _ hw) mw_X7_isLong w_918 w_917 (rest := [.int (T67.1 148 ((v3_48 + 1) &&& 255).toNatClampNeg), .int ((v3_48 + 1) &&& 255), .ref (G.2.2 148)]) rfl hl.1 rfl (Nat.le_of_ble_eq_true rfl) ⟨Nat.le_of_ble_eq_true rfl, Nat.le_of_ble_eq_true rfl⟩ dX7_find_129 ⟨Nat.zero_le _, Nat.zero_le _⟩) hS (fun _ h => h) (fun r70 T69 H locs hw hP hS => ?_)
                          refine lv_if_eq (tgt := 139) hx hb dX7_find_132 (by decide) (fun hc71 => ?_) (fun hc71 => ?_)
                          · have hw := hw.1 hc71
                            refine lv_iconst (v := 0) hx hb dX7_find_139 (by decide) ?_
                            exact J95 _ _ _ _ _ _ _  hw _ _ hP hS ls (lv_sub hl [3, 1, 2, 0] rfl)
                          · have hw := hw.2 hc71
                            refine lv_iconst (v := 1) hx hb dX7_find_135 (by decide) ?_
                            refine lv_goto (tgt := 140) hx hb dX7_find_136 (by decide) ?_
                            exact J95 _ _ _ _ _ _ _  hw _ _ hP hS ls (lv_sub hl [3, 1, 2, 0] rfl)
                        · have hw := hw.2 hc64
                          refine lv_iconst (v := 0) hx hb dX7_find_102 (by decide) ?_
                          exact sy_zret C hr hlocks hP hS rfl hw dX7_find_103
              exact L56 _ _ _ _ hI (Nat.lt_succ_self _) _ _ hP hS ls (lv_sub hl [0, 1, 2] rfl)
        exact L20 _ _ _ hI (Nat.lt_succ_self _) _ _ hP hS ls (lv_sub hl [0, 1] rfl)
      · have hw := hw.2 hc10
        refine lv_aload_n hx hb dX7_find_9 rfl (lv_at hl 1 rfl) ?_
        refine gf_X7_56 C hP (o := 130) rfl dX7_find_10 ?_
        refine lv_iload_n hx hb dX7_find_13 rfl (lv_at hl 0 rfl) ?_
        refine lv_iconst (v := 0) hx hb dX7_find_14 (by decide) ?_
        obtain ⟨hn96, hw⟩ := hw
        refine sy_zast C hP hS (fun _ h => h) (o := 146) rfl rfl hn96 dX7_find_15 (fun H locs hP hS => ?_)
        refine lv_aload_n hx hb dX7_find_16 rfl (lv_at hl 1 rfl) ?_
        refine gf_X7_59 C hP (o := 130) rfl dX7_find_17 ?_
        refine lv_iload_n hx hb dX7_find_20 rfl (lv_at hl 0 rfl) ?_
        refine lv_iconst (v := 0) hx hb dX7_find_21 (by decide) ?_
        obtain ⟨hn97, hw⟩ := hw
        refine sy_zast C hP hS (fun _ h => h) (o := 147) rfl rfl hn97 dX7_find_22 (fun H locs hP hS => ?_)
        refine lv_aload_n hx hb dX7_find_23 rfl (lv_at hl 1 rfl) ?_
        refine gf_X7_62 C hP (o := 130) rfl dX7_find_24 ?_
        refine lv_iload_n hx hb dX7_find_27 rfl (lv_at hl 0 rfl) ?_
        refine lv_iconst (v := 0) hx hb dX7_find_28 (by decide) ?_
        obtain ⟨hn98, hw⟩ := hw
        refine sy_iast C hP hS (fun _ h => h) (o := 148) rfl rfl hn98 dX7_find_29 (fun H locs hP hS => ?_)
        obtain ⟨T99, eT99, hP⟩ := nameT (P := fun T => va_P G.1 sc_cl (wd G T) H) hP
        have hw := hw T99 eT99
        refine lv_iinc (v := v2_1 + 1) (lv' := [(2, .int (v2_1 + 1)), (0, .ref (G.2.2 130)), (1, .int a1)]) hx hb dX7_find_30 hl (k := 0) rfl rfl (by decide) rfl (fun ls hl => ?_)
        refine lv_goto (tgt := 2) hx hb dX7_find_33 (by decide) ?_
        exact ih7 _ _ hw.1 (Nat.lt_of_lt_of_le hw.2 (Nat.le_of_lt_succ hlt8)) _ _ hP hS ls (lv_sub hl [0, 1, 2] rfl)
  exact L9 _ _ _ hI (Nat.lt_succ_self _) _ _ hP hS ls (lv_sub hl [0, 1, 2] rfl)
theorem mw_X7_make : MW yX7_make cX7_make 4 (some .int) 0 := ⟨w_912, w_8, by decide +kernel⟩
def wj_X7_make_101 (v2_2 : Int32) (k22 : (Int32) → St → Prop) (j3_35 : Int32) (s36 : Int32) (s37 : Int32) (T38 : St) (post : Int32 → St → Prop) : Prop :=
  vp_in s37 2560 ∧ (vp_in j3_35 256 ∧ (vp_in ((256 * v2_2) + j3_35) 2560 ∧ (∀ T42 : St, T42 = sv (sv T38 135 (s37.toNatClampNeg) (vp_nar .boolean s36)) 136 (((256 * v2_2) + j3_35).toNatClampNeg) ((sv T38 135 (s37.toNatClampNeg) (vp_nar .boolean s36)).1 131 j3_35.toNatClampNeg) → (k22 (j3_35 + 1) T42))))
def wb_X7_make_51 (v1_1 : Int32) (v2_2 : Int32) (k4 : (Int32 × Int32) → St → Prop) (k22 : (Int32) → St → Prop) (v3_20 : Int32) (T21 : St) (post : Int32 → St → Prop) : Prop :=
 (256 ≤ v3_20 → vp_in v2_2 10 ∧ (k4 (v1_1 + 1, v2_2 + 1) (sv T21 133 (v2_2.toNatClampNeg) (vp_nar .boolean 1)))) ∧ (¬ 256 ≤ v3_20 → vp_in v3_20 256 ∧ (vp_in ((256 * v2_2) + v3_20) 2560 ∧ (vp_in v3_20 256 ∧ (((sv T21 134 (((256 * v2_2) + v3_20).toNatClampNeg) (vp_nar .boolean (T21.1 146 v3_20.toNatClampNeg))).1 148 v3_20.toNatClampNeg ≤ 0 → wj_X7_make_101 v2_2 k22 v3_20 0 ((256 * v2_2) + v3_20) (sv T21 134 (((256 * v2_2) + v3_20).toNatClampNeg) (vp_nar .boolean (T21.1 146 v3_20.toNatClampNeg))) post) ∧ (¬ (sv T21 134 (((256 * v2_2) + v3_20).toNatClampNeg) (vp_nar .boolean (T21.1 146 v3_20.toNatClampNeg))).1 148 v3_20.toNatClampNeg ≤ 0 → wj_X7_make_101 v2_2 k22 v3_20 1 ((256 * v2_2) + v3_20) (sv T21 134 (((256 * v2_2) + v3_20).toNatClampNeg) (vp_nar .boolean (T21.1 146 v3_20.toNatClampNeg))) post)))))
def wb_X7_make_9  (k4 : (Int32 × Int32) → St → Prop) (v1_1 : Int32) (v2_2 : Int32) (T3 : St) (post : Int32 → St → Prop) : Prop :=
 (T3.1 130 2 ≤ v2_2 → post v1_1 (sv T3 130 14 ((T3.1 130 14) + v1_1))) ∧ (¬ T3.1 130 2 ≤ v2_2 → vp_in v2_2 10 ∧ ((¬ T3.1 133 v2_2.toNatClampNeg = 0 → k4 (v1_1, v2_2 + 1) T3) ∧ (T3.1 133 v2_2.toNatClampNeg = 0 → vp_in v2_2 10 ∧ ((3 ≤ T3.1 137 v2_2.toNatClampNeg → k4 (v1_1, v2_2 + 1) T3) ∧ (¬ 3 ≤ T3.1 137 v2_2.toNatClampNeg → vp_in v2_2 10 ∧ (wp_X7_find (T3.1 132 v2_2.toNatClampNeg) T3 (fun r18 T17 => (r18 = 0 → k4 (v1_1, v2_2 + 1) T17) ∧ (¬ r18 = 0 → LW (fun kl (vl : Int32) Tl => wb_X7_make_51 v1_1 v2_2 k4 kl vl Tl post) 0 T17))))))))
def wp_X7_make (T : St) (post : Int32 → St → Prop) : Prop :=
  LW (fun kl (vl : Int32 × Int32) Tl => wb_X7_make_9 kl vl.1 vl.2 Tl post) (0, 0) (sv T 130 0 0)
set_option maxHeartbeats 4000000 in
set_option maxRecDepth 100000 in
theorem m_X7_make (l : Launch) (G : Gm) (hi : Inj G)   (T : St) (post : Int32 → St → Prop) (hw : wp_X7_make T post) : Mi l yX7_make cX7_make 4 (some .int) 3 66 G [.ref (G.2.2 130)] T post := by
  refine sy_head hi (by decide) (Nat.le_of_ble_eq_true rfl) (lv := [(0, .ref (G.2.2 130))]) rfl ?_
  intro p e s m below meth c C hr hlocks hP hS ls hl
  have C : Cx p s m _ c cX7_make 4 RX7 G := C
  obtain ⟨hx, hb, hml, hown, hg, hK, hN, -⟩ := id C
  unfold wp_X7_make at hw
  refine lv_aload_n hx hb dX7_make_0 rfl (lv_at hl 0 rfl) ?_
  refine lv_iconst (v := 0) hx hb dX7_make_1 (by decide) ?_
  refine pf_X7_71 C hP hS (fun _ h => h) (o := 130) rfl dX7_make_2 (fun H locs hP hS => ?_)
  refine lv_iconst (v := 0) hx hb dX7_make_5 (by decide) ?_
  refine lv_istore_n (lv' := [(1, .int 0), (0, .ref (G.2.2 130))]) hx hb dX7_make_6 rfl hl (by decide) rfl (fun ls hl => ?_)
  refine lv_iconst (v := 0) hx hb dX7_make_7 (by decide) ?_
  refine lv_istore_n (lv' := [(2, .int 0), (1, .int 0), (0, .ref (G.2.2 130))]) hx hb dX7_make_8 rfl hl (by decide) rfl (fun ls hl => ?_)
  obtain ⟨I5, u6, hI, hst7⟩ := hw
  have L10 : ∀ (n : Nat) (v1_1 : Int32) (v2_2 : Int32) (T3 : St), I5 (v1_1, v2_2) T3 → u6 (v1_1, v2_2) T3 < n → ∀ (H : Heap) (locs : List Loc), va_P G.1 sc_cl (wd G T3) H → va_S (SA G) s.heap H locs → ∀ ls : Array Slot, lv_has ls 4 [(2, .int v2_2), (1, .int v1_1), (0, .ref (G.2.2 130))] → W p l e { frames := 3, cells := 0, slots := 0, locals := 66 } s m ([.ref (G.2.2 130)] : List Value).toArray below meth c H locs 0 0 (MQ below (va_Qi post (Sy G) (SA G)) ([.ref (G.2.2 130)] : List Value).toArray s 0 0 (SA G)) (F0 m 9 ls []) := by
    intro n
    induction n with
    | zero => intro _ _ _ _ h; exact absurd h (Nat.not_lt_zero _)
    | succ n ih8 =>
      intro v1_1 v2_2 T3 hI hlt9 H locs hP hS ls hl
      have hw := hst7 (v1_1, v2_2) T3 hI
      unfold wb_X7_make_9 at hw
      refine lv_iload_n hx hb dX7_make_9 rfl (lv_at hl 0 rfl) ?_
      refine lv_aload_n hx hb dX7_make_10 rfl (lv_at hl 2 rfl) ?_
      refine gf_X7_75 C hP (o := 130) rfl dX7_make_11 ?_
      refine lv_icmp_ge (tgt := 142) hx hb dX7_make_14 (by decide) (fun hc11 => ?_) (fun hc11 => ?_)
      · have hw := hw.1 hc11
        refine lv_aload_n hx hb dX7_make_142 rfl (lv_at hl 2 rfl) ?_
        refine lv_dup hx hb dX7_make_143 rfl ?_
        refine gf_X7_124 C hP (o := 130) rfl dX7_make_144 ?_
        refine lv_iload_n hx hb dX7_make_147 rfl (lv_at hl 1 rfl) ?_
        refine lv_iadd hx hb dX7_make_148 ?_
        refine pf_X7_124 C hP hS (fun _ h => h) (o := 130) rfl dX7_make_149 (fun H locs hP hS => ?_)
        refine lv_iload_n hx hb dX7_make_152 rfl (lv_at hl 1 rfl) ?_
        exact sy_iret C hr hlocks hP hS hw dX7_make_153
      · have hw := hw.2 hc11
        refine lv_aload_n hx hb dX7_make_17 rfl (lv_at hl 2 rfl) ?_
        refine gf_X7_16 C hP (o := 130) rfl dX7_make_18 ?_
        refine lv_iload_n hx hb dX7_make_21 rfl (lv_at hl 0 rfl) ?_
        obtain ⟨hn12, hw⟩ := hw
        refine sy_zald C hP (o := 133) rfl rfl hn12 dX7_make_22 ?_
        refine lv_if_ne (tgt := 136) hx hb dX7_make_23 (by decide) (fun hc13 => ?_) (fun hc13 => ?_)
        · have hw := hw.1 hc13
          refine lv_iinc (v := v2_2 + 1) (lv' := [(2, .int (v2_2 + 1)), (1, .int v1_1), (0, .ref (G.2.2 130))]) hx hb dX7_make_136 hl (k := 0) rfl rfl (by decide) rfl (fun ls hl => ?_)
          refine lv_goto (tgt := 9) hx hb dX7_make_139 (by decide) ?_
          exact ih8 _ _ _ hw.1 (Nat.lt_of_lt_of_le hw.2 (Nat.le_of_lt_succ hlt9)) _ _ hP hS ls (lv_sub hl [0, 1, 2] rfl)
        · have hw := hw.2 hc13
          refine lv_aload_n hx hb dX7_make_26 rfl (lv_at hl 2 rfl) ?_
          refine gf_X7_29 C hP (o := 130) rfl dX7_make_27 ?_
          refine lv_iload_n hx hb dX7_make_30 rfl (lv_at hl 0 rfl) ?_
          obtain ⟨hn14, hw⟩ := hw
          refine sy_iald C hP (o := 137) rfl rfl hn14 dX7_make_31 ?_
          refine lv_iconst (v := 3) hx hb dX7_make_32 (by decide) ?_
          refine lv_icmp_ge (tgt := 136) hx hb dX7_make_33 (by decide) (fun hc15 => ?_) (fun hc15 => ?_)
          · have hw := hw.1 hc15
            refine lv_iinc (v := v2_2 + 1) (lv' := [(2, .int (v2_2 + 1)), (1, .int v1_1), (0, .ref (G.2.2 130))]) hx hb dX7_make_136 hl (k := 0) rfl rfl (by decide) rfl (fun ls hl => ?_)
            refine lv_goto (tgt := 9) hx hb dX7_make_139 (by decide) ?_
            exact ih8 _ _ _ hw.1 (Nat.lt_of_lt_of_le hw.2 (Nat.le_of_lt_succ hlt9)) _ _ hP hS ls (lv_sub hl [0, 1, 2] rfl)
          · have hw := hw.2 hc15
            refine lv_aload_n hx hb dX7_make_36 rfl (lv_at hl 2 rfl) ?_
            refine lv_aload_n hx hb dX7_make_37 rfl (lv_at hl 2 rfl) ?_
            refine gf_X7_13 C hP (o := 130) rfl dX7_make_38 ?_
            refine lv_iload_n hx hb dX7_make_41 rfl (lv_at hl 0 rfl) ?_
            obtain ⟨hn16, hw⟩ := hw
            refine sy_iald C hP (o := 132) rfl rfl hn16 dX7_make_42 ?_
            refine sy_goi (sy_runV C hP rfl rfl (m_X7_find l G hi _ _ _ hw) mw_X7_find w_915 ws_30 w_913 (rest := []) rfl hl.1 rfl (Nat.le_of_ble_eq_true rfl) ⟨Nat.le_of_ble_eq_true rfl, Nat.le_of_ble_eq_true rfl⟩ dX7_make_43 ⟨Nat.zero_le _, Nat.zero_le _⟩) hS (fun _ h => h) (fun r18 T17 H locs hw hP hS => ?_)
            refine lv_if_eq (tgt := 136) hx hb dX7_make_46 (by decide) (fun hc19 => ?_) (fun hc19 => ?_)
            · have hw := hw.1 hc19
              refine lv_iinc (v := v2_2 + 1) (lv' := [(2, .int (v2_2 + 1)), (1, .int v1_1), (0, .ref (G.2.2 130))]) hx hb dX7_make_136 hl (k := 0) rfl rfl (by decide) rfl (fun ls hl => ?_)
              refine lv_goto (tgt := 9) hx hb dX7_make_139 (by decide) ?_
              exact ih8 _ _ _ hw.1 (Nat.lt_of_lt_of_le hw.2 (Nat.le_of_lt_succ hlt9)) _ _ hP hS ls (lv_sub hl [0, 1, 2] rfl)
            · have hw := hw.2 hc19
              refine lv_iconst (v := 0) hx hb dX7_make_49 (by decide) ?_
              refine lv_istore_n (lv' := [(3, .int 0), (2, .int v2_2), (1, .int v1_1), (0, .ref (G.2.2 130))]) hx hb dX7_make_50 rfl hl (by decide) rfl (fun ls hl => ?_)
              obtain ⟨I23, u24, hI, hst25⟩ := hw
              have L28 : ∀ (n : Nat) (v3_20 : Int32) (T21 : St), I23 v3_20 T21 → u24 v3_20 T21 < n → ∀ (H : Heap) (locs : List Loc), va_P G.1 sc_cl (wd G T21) H → va_S (SA G) s.heap H locs → ∀ ls : Array Slot, lv_has ls 4 [(3, .int v3_20), (2, .int v2_2), (1, .int v1_1), (0, .ref (G.2.2 130))] → W p l e { frames := 3, cells := 0, slots := 0, locals := 66 } s m ([.ref (G.2.2 130)] : List Value).toArray below meth c H locs 0 0 (MQ below (va_Qi post (Sy G) (SA G)) ([.ref (G.2.2 130)] : List Value).toArray s 0 0 (SA G)) (F0 m 51 ls []) := by
                intro n
                induction n with
                | zero => intro _ _ _ h; exact absurd h (Nat.not_lt_zero _)
                | succ n ih26 =>
                  intro v3_20 T21 hI hlt27 H locs hP hS ls hl
                  have hw := hst25 v3_20 T21 hI
                  unfold wb_X7_make_51 at hw
                  have J43 : ∀ (j3_35 : Int32) (s36 : Int32) (s37 : Int32) (T38 : St), wj_X7_make_101 v2_2 (fun v' T' => I23 v' T' ∧ u24 v' T' < u24 v3_20 T21) j3_35 s36 s37 T38 post → ∀ (H : Heap) (locs : List Loc), va_P G.1 sc_cl (wd G T38) H → va_S (SA G) s.heap H locs → ∀ ls : Array Slot, lv_has ls 4 [(0, .ref (G.2.2 130)), (1, .int v1_1), (2, .int v2_2), (3, .int j3_35)] → W p l e { frames := 3, cells := 0, slots := 0, locals := 66 } s m ([.ref (G.2.2 130)] : List Value).toArray below meth c H locs 0 0 (MQ below (va_Qi post (Sy G) (SA G)) ([.ref (G.2.2 130)] : List Value).toArray s 0 0 (SA G)) (F0 m 101 ls [.int s36, .int s37, .ref (G.2.2 135)]) := by
                    intro j3_35 s36 s37 T38  hw H locs hP hS ls hl
                    unfold wj_X7_make_101 at hw
                    obtain ⟨hn39, hw⟩ := hw
                    refine sy_zast C hP hS (fun _ h => h) (o := 135) rfl rfl hn39 dX7_make_101 (fun H locs hP hS => ?_)
                    refine lv_aload_n hx hb dX7_make_102 rfl (lv_at hl 0 rfl) ?_
                    refine gf_X7_26 C hP (o := 130) rfl dX7_make_103 ?_
                    refine lv_sipush (v := 256) hx hb dX7_make_106 (by decide) ?_
                    refine lv_iload_n hx hb dX7_make_109 rfl (lv_at hl 2 rfl) ?_
                    refine lv_imul hx hb dX7_make_110 ?_
                    refine lv_iload_n hx hb dX7_make_111 rfl (lv_at hl 3 rfl) ?_
                    refine lv_iadd hx hb dX7_make_112 ?_
                    refine lv_aload_n hx hb dX7_make_113 rfl (lv_at hl 0 rfl) ?_
                    refine gf_X7_7 C hP (o := 130) rfl dX7_make_114 ?_
                    refine lv_iload_n hx hb dX7_make_117 rfl (lv_at hl 3 rfl) ?_
                    obtain ⟨hn40, hw⟩ := hw
                    refine sy_iald C hP (o := 131) rfl rfl hn40 dX7_make_118 ?_
                    obtain ⟨hn41, hw⟩ := hw
                    refine sy_iast C hP hS (fun _ h => h) (o := 136) rfl rfl hn41 dX7_make_119 (fun H locs hP hS => ?_)
                    obtain ⟨T42, eT42, hP⟩ := nameT (P := fun T => va_P G.1 sc_cl (wd G T) H) hP
                    have hw := hw T42 eT42
                    refine lv_iinc (v := j3_35 + 1) (lv' := [(3, .int (j3_35 + 1)), (0, .ref (G.2.2 130)), (1, .int v1_1), (2, .int v2_2)]) hx hb dX7_make_120 hl (k := 3) rfl rfl (by decide) rfl (fun ls hl => ?_)
                    refine lv_goto (tgt := 51) hx hb dX7_make_123 (by decide) ?_
                    exact ih26 _ _ hw.1 (Nat.lt_of_lt_of_le hw.2 (Nat.le_of_lt_succ hlt27)) _ _ hP hS ls (lv_sub hl [0, 3, 2, 1] rfl)
                  refine lv_iload_n hx hb dX7_make_51 rfl (lv_at hl 0 rfl) ?_
                  refine lv_sipush (v := 256) hx hb dX7_make_52 (by decide) ?_
                  refine lv_icmp_ge (tgt := 126) hx hb dX7_make_55 (by decide) (fun hc29 => ?_) (fun hc29 => ?_)
                  · have hw := hw.1 hc29
                    refine lv_aload_n hx hb dX7_make_126 rfl (lv_at hl 3 rfl) ?_
                    refine gf_X7_16 C hP (o := 130) rfl dX7_make_127 ?_
                    refine lv_iload_n hx hb dX7_make_130 rfl (lv_at hl 1 rfl) ?_
                    refine lv_iconst (v := 1) hx hb dX7_make_131 (by decide) ?_
                    obtain ⟨hn30, hw⟩ := hw
                    refine sy_zast C hP hS (fun _ h => h) (o := 133) rfl rfl hn30 dX7_make_132 (fun H locs hP hS => ?_)
                    refine lv_iinc (v := v1_1 + 1) (lv' := [(1, .int (v1_1 + 1)), (3, .int v3_20), (2, .int v2_2), (0, .ref (G.2.2 130))]) hx hb dX7_make_133 hl (k := 2) rfl rfl (by decide) rfl (fun ls hl => ?_)
                    refine lv_iinc (v := v2_2 + 1) (lv' := [(2, .int (v2_2 + 1)), (1, .int (v1_1 + 1)), (3, .int v3_20), (0, .ref (G.2.2 130))]) hx hb dX7_make_136 hl (k := 2) rfl rfl (by decide) rfl (fun ls hl => ?_)
                    refine lv_goto (tgt := 9) hx hb dX7_make_139 (by decide) ?_
                    exact ih8 _ _ _ hw.1 (Nat.lt_of_lt_of_le hw.2 (Nat.le_of_lt_succ hlt9)) _ _ hP hS ls (lv_sub hl [0, 1, 3] rfl)
                  · have hw := hw.2 hc29
                    refine lv_aload_n hx hb dX7_make_58 rfl (lv_at hl 3 rfl) ?_
                    refine gf_X7_20 C hP (o := 130) rfl dX7_make_59 ?_
                    refine lv_sipush (v := 256) hx hb dX7_make_62 (by decide) ?_
                    refine lv_iload_n hx hb dX7_make_65 rfl (lv_at hl 1 rfl) ?_
                    refine lv_imul hx hb dX7_make_66 ?_
                    refine lv_iload_n hx hb dX7_make_67 rfl (lv_at hl 0 rfl) ?_
                    refine lv_iadd hx hb dX7_make_68 ?_
                    refine lv_aload_n hx hb dX7_make_69 rfl (lv_at hl 3 rfl) ?_
                    refine gf_X7_56 C hP (o := 130) rfl dX7_make_70 ?_
                    refine lv_iload_n hx hb dX7_make_73 rfl (lv_at hl 0 rfl) ?_
                    obtain ⟨hn31, hw⟩ := hw
                    refine sy_zald C hP (o := 146) rfl rfl hn31 dX7_make_74 ?_
                    obtain ⟨hn32, hw⟩ := hw
                    refine sy_zast C hP hS (fun _ h => h) (o := 134) rfl rfl hn32 dX7_make_75 (fun H locs hP hS => ?_)
                    refine lv_aload_n hx hb dX7_make_76 rfl (lv_at hl 3 rfl) ?_
                    refine gf_X7_23 C hP (o := 130) rfl dX7_make_77 ?_
                    refine lv_sipush (v := 256) hx hb dX7_make_80 (by decide) ?_
                    refine lv_iload_n hx hb dX7_make_83 rfl (lv_at hl 1 rfl) ?_
                    refine lv_imul hx hb dX7_make_84 ?_
                    refine lv_iload_n hx hb dX7_make_85 rfl (lv_at hl 0 rfl) ?_
                    refine lv_iadd hx hb dX7_make_86 ?_
                    refine lv_aload_n hx hb dX7_make_87 rfl (lv_at hl 3 rfl) ?_
                    refine gf_X7_62 C hP (o := 130) rfl dX7_make_88 ?_
                    refine lv_iload_n hx hb dX7_make_91 rfl (lv_at hl 0 rfl) ?_
                    obtain ⟨hn33, hw⟩ := hw
                    refine sy_iald C hP (o := 148) rfl rfl hn33 dX7_make_92 ?_
                    refine lv_if_le (tgt := 100) hx hb dX7_make_93 (by decide) (fun hc34 => ?_) (fun hc34 => ?_)
                    · have hw := hw.1 hc34
                      refine lv_iconst (v := 0) hx hb dX7_make_100 (by decide) ?_
                      exact J43 _ _ _ _  hw _ _ hP hS ls (lv_sub hl [3, 2, 1, 0] rfl)
                    · have hw := hw.2 hc34
                      refine lv_iconst (v := 1) hx hb dX7_make_96 (by decide) ?_
                      refine lv_goto (tgt := 101) hx hb dX7_make_97 (by decide) ?_
                      exact J43 _ _ _ _  hw _ _ hP hS ls (lv_sub hl [3, 2, 1, 0] rfl)
              exact L28 _ _ _ hI (Nat.lt_succ_self _) _ _ hP hS ls (lv_sub hl [0, 1, 2, 3] rfl)
  exact L10 _ _ _ _ hI (Nat.lt_succ_self _) _ _ hP hS ls (lv_sub hl [0, 1, 2] rfl)
theorem mw_X7_countOf : MW yX7_countOf cX7_countOf 5 (some .int) 2 := ⟨w_939, w_8, by decide +kernel⟩
def wb_X7_countOf_9 (a1 : Int32) (a2 : Int32) (k4 : (Int32 × Int32) → St → Prop) (v3_1 : Int32) (v4_2 : Int32) (T3 : St) (post : Int32 → St → Prop) : Prop :=
 ((256 * a1) + 256 ≤ v4_2 → post v3_1 T3) ∧ (¬ (256 * a1) + 256 ≤ v4_2 → vp_in a1 10 ∧ ((T3.1 133 a1.toNatClampNeg = 0 → post v3_1 T3) ∧ (¬ T3.1 133 a1.toNatClampNeg = 0 → (a2 = 0 → vp_in v4_2 2560 ∧ ((T3.1 135 v4_2.toNatClampNeg = 0 → k4 (v3_1 + 0, v4_2 + 1) T3) ∧ (¬ T3.1 135 v4_2.toNatClampNeg = 0 → k4 (v3_1 + 1, v4_2 + 1) T3))) ∧ (¬ a2 = 0 → vp_in v4_2 2560 ∧ ((T3.1 134 v4_2.toNatClampNeg = 0 → k4 (v3_1 + 0, v4_2 + 1) T3) ∧ (¬ T3.1 134 v4_2.toNatClampNeg = 0 → k4 (v3_1 + 1, v4_2 + 1) T3))))))
def wp_X7_countOf (a1 : Int32) (a2 : Int32) (T : St) (post : Int32 → St → Prop) : Prop :=
  LW (fun kl (vl : Int32 × Int32) Tl => wb_X7_countOf_9 a1 a2 kl vl.1 vl.2 Tl post) (0, 256 * a1) T
set_option maxHeartbeats 4000000 in
set_option maxRecDepth 100000 in
theorem m_X7_countOf (l : Launch) (G : Gm) (hi : Inj G) (a1 : Int32) (a2 : Int32)  (T : St) (post : Int32 → St → Prop) (hw : wp_X7_countOf a1 a2 T post) : Mi l yX7_countOf cX7_countOf 5 (some .int) 0 0 G [.ref (G.2.2 130), .int a1, .int a2] T post := by
  refine sy_head hi (by decide) (Nat.le_of_ble_eq_true rfl) (lv := [(0, .ref (G.2.2 130)), (1, .int a1), (2, .int a2)]) rfl ?_
  intro p e s m below meth c C hr hlocks hP hS ls hl
  have C : Cx p s m _ c cX7_countOf 5 RX7 G := C
  obtain ⟨hx, hb, hml, hown, hg, hK, hN, -⟩ := id C
  unfold wp_X7_countOf at hw
  refine lv_iconst (v := 0) hx hb dX7_countOf_0 (by decide) ?_
  refine lv_istore_n (lv' := [(3, .int 0), (0, .ref (G.2.2 130)), (1, .int a1), (2, .int a2)]) hx hb dX7_countOf_1 rfl hl (by decide) rfl (fun ls hl => ?_)
  refine lv_sipush (v := 256) hx hb dX7_countOf_2 (by decide) ?_
  refine lv_iload_n hx hb dX7_countOf_5 rfl (lv_at hl 2 rfl) ?_
  refine lv_imul hx hb dX7_countOf_6 ?_
  refine lv_istore (lv' := [(4, .int (256 * a1)), (3, .int 0), (0, .ref (G.2.2 130)), (1, .int a1), (2, .int a2)]) hx hb dX7_countOf_7 hl (by decide) rfl (fun ls hl => ?_)
  obtain ⟨I5, u6, hI, hst7⟩ := hw
  have L10 : ∀ (n : Nat) (v3_1 : Int32) (v4_2 : Int32) (T3 : St), I5 (v3_1, v4_2) T3 → u6 (v3_1, v4_2) T3 < n → ∀ (H : Heap) (locs : List Loc), va_P G.1 sc_cl (wd G T3) H → va_S (SA G) s.heap H locs → ∀ ls : Array Slot, lv_has ls 5 [(4, .int v4_2), (3, .int v3_1), (0, .ref (G.2.2 130)), (1, .int a1), (2, .int a2)] → W p l e { frames := 0, cells := 0, slots := 0, locals := 0 } s m ([.ref (G.2.2 130), .int a1, .int a2] : List Value).toArray below meth c H locs 0 0 (MQ below (va_Qi post (Sy G) (SA G)) ([.ref (G.2.2 130), .int a1, .int a2] : List Value).toArray s 0 0 (SA G)) (F0 m 9 ls []) := by
    intro n
    induction n with
    | zero => intro _ _ _ _ h; exact absurd h (Nat.not_lt_zero _)
    | succ n ih8 =>
      intro v3_1 v4_2 T3 hI hlt9 H locs hP hS ls hl
      have hw := hst7 (v3_1, v4_2) T3 hI
      unfold wb_X7_countOf_9 at hw
      refine lv_iload hx hb dX7_countOf_9 (lv_at hl 0 rfl) ?_
      refine lv_sipush (v := 256) hx hb dX7_countOf_11 (by decide) ?_
      refine lv_iload_n hx hb dX7_countOf_14 rfl (lv_at hl 3 rfl) ?_
      refine lv_imul hx hb dX7_countOf_15 ?_
      refine lv_sipush (v := 256) hx hb dX7_countOf_16 (by decide) ?_
      refine lv_iadd hx hb dX7_countOf_19 ?_
      refine lv_icmp_ge (tgt := 73) hx hb dX7_countOf_20 (by decide) (fun hc11 => ?_) (fun hc11 => ?_)
      · have hw := hw.1 hc11
        refine lv_iload_n hx hb dX7_countOf_73 rfl (lv_at hl 1 rfl) ?_
        exact sy_iret C hr hlocks hP hS hw dX7_countOf_74
      · have hw := hw.2 hc11
        refine lv_aload_n hx hb dX7_countOf_23 rfl (lv_at hl 2 rfl) ?_
        refine gf_X7_16 C hP (o := 130) rfl dX7_countOf_24 ?_
        refine lv_iload_n hx hb dX7_countOf_27 rfl (lv_at hl 3 rfl) ?_
        obtain ⟨hn12, hw⟩ := hw
        refine sy_zald C hP (o := 133) rfl rfl hn12 dX7_countOf_28 ?_
        refine lv_if_eq (tgt := 73) hx hb dX7_countOf_29 (by decide) (fun hc13 => ?_) (fun hc13 => ?_)
        · have hw := hw.1 hc13
          refine lv_iload_n hx hb dX7_countOf_73 rfl (lv_at hl 1 rfl) ?_
          exact sy_iret C hr hlocks hP hS hw dX7_countOf_74
        · have hw := hw.2 hc13
          refine lv_iload_n hx hb dX7_countOf_32 rfl (lv_at hl 1 rfl) ?_
          refine lv_iload_n hx hb dX7_countOf_33 rfl (lv_at hl 4 rfl) ?_
          refine lv_if_eq (tgt := 50) hx hb dX7_countOf_34 (by decide) (fun hc14 => ?_) (fun hc14 => ?_)
          · have hw := hw.1 hc14
            refine lv_aload_n hx hb dX7_countOf_50 rfl (lv_at hl 2 rfl) ?_
            refine gf_X7_23 C hP (o := 130) rfl dX7_countOf_51 ?_
            refine lv_iload hx hb dX7_countOf_54 (lv_at hl 0 rfl) ?_
            obtain ⟨hn15, hw⟩ := hw
            refine sy_zald C hP (o := 135) rfl rfl hn15 dX7_countOf_56 ?_
            refine lv_if_eq (tgt := 64) hx hb dX7_countOf_57 (by decide) (fun hc16 => ?_) (fun hc16 => ?_)
            · have hw := hw.1 hc16
              refine lv_iconst (v := 0) hx hb dX7_countOf_64 (by decide) ?_
              refine lv_iadd hx hb dX7_countOf_65 ?_
              refine lv_istore_n (lv' := [(3, .int (v3_1 + 0)), (4, .int v4_2), (0, .ref (G.2.2 130)), (1, .int a1), (2, .int a2)]) hx hb dX7_countOf_66 rfl hl (by decide) rfl (fun ls hl => ?_)
              refine lv_iinc (v := v4_2 + 1) (lv' := [(4, .int (v4_2 + 1)), (3, .int (v3_1 + 0)), (0, .ref (G.2.2 130)), (1, .int a1), (2, .int a2)]) hx hb dX7_countOf_67 hl (k := 1) rfl rfl (by decide) rfl (fun ls hl => ?_)
              refine lv_goto (tgt := 9) hx hb dX7_countOf_70 (by decide) ?_
              exact ih8 _ _ _ hw.1 (Nat.lt_of_lt_of_le hw.2 (Nat.le_of_lt_succ hlt9)) _ _ hP hS ls (lv_sub hl [0, 1, 2, 3, 4] rfl)
            · have hw := hw.2 hc16
              refine lv_iconst (v := 1) hx hb dX7_countOf_60 (by decide) ?_
              refine lv_goto (tgt := 65) hx hb dX7_countOf_61 (by decide) ?_
              refine lv_iadd hx hb dX7_countOf_65 ?_
              refine lv_istore_n (lv' := [(3, .int (v3_1 + 1)), (4, .int v4_2), (0, .ref (G.2.2 130)), (1, .int a1), (2, .int a2)]) hx hb dX7_countOf_66 rfl hl (by decide) rfl (fun ls hl => ?_)
              refine lv_iinc (v := v4_2 + 1) (lv' := [(4, .int (v4_2 + 1)), (3, .int (v3_1 + 1)), (0, .ref (G.2.2 130)), (1, .int a1), (2, .int a2)]) hx hb dX7_countOf_67 hl (k := 1) rfl rfl (by decide) rfl (fun ls hl => ?_)
              refine lv_goto (tgt := 9) hx hb dX7_countOf_70 (by decide) ?_
              exact ih8 _ _ _ hw.1 (Nat.lt_of_lt_of_le hw.2 (Nat.le_of_lt_succ hlt9)) _ _ hP hS ls (lv_sub hl [0, 1, 2, 3, 4] rfl)
          · have hw := hw.2 hc14
            refine lv_aload_n hx hb dX7_countOf_37 rfl (lv_at hl 2 rfl) ?_
            refine gf_X7_20 C hP (o := 130) rfl dX7_countOf_38 ?_
            refine lv_iload hx hb dX7_countOf_41 (lv_at hl 0 rfl) ?_
            obtain ⟨hn17, hw⟩ := hw
            refine sy_zald C hP (o := 134) rfl rfl hn17 dX7_countOf_43 ?_
            refine lv_if_eq (tgt := 64) hx hb dX7_countOf_44 (by decide) (fun hc18 => ?_) (fun hc18 => ?_)
            · have hw := hw.1 hc18
              refine lv_iconst (v := 0) hx hb dX7_countOf_64 (by decide) ?_
              refine lv_iadd hx hb dX7_countOf_65 ?_
              refine lv_istore_n (lv' := [(3, .int (v3_1 + 0)), (4, .int v4_2), (0, .ref (G.2.2 130)), (1, .int a1), (2, .int a2)]) hx hb dX7_countOf_66 rfl hl (by decide) rfl (fun ls hl => ?_)
              refine lv_iinc (v := v4_2 + 1) (lv' := [(4, .int (v4_2 + 1)), (3, .int (v3_1 + 0)), (0, .ref (G.2.2 130)), (1, .int a1), (2, .int a2)]) hx hb dX7_countOf_67 hl (k := 1) rfl rfl (by decide) rfl (fun ls hl => ?_)
              refine lv_goto (tgt := 9) hx hb dX7_countOf_70 (by decide) ?_
              exact ih8 _ _ _ hw.1 (Nat.lt_of_lt_of_le hw.2 (Nat.le_of_lt_succ hlt9)) _ _ hP hS ls (lv_sub hl [0, 1, 2, 3, 4] rfl)
            · have hw := hw.2 hc18
              refine lv_goto (tgt := 60) hx hb dX7_countOf_47 (by decide) ?_
              refine lv_iconst (v := 1) hx hb dX7_countOf_60 (by decide) ?_
              refine lv_goto (tgt := 65) hx hb dX7_countOf_61 (by decide) ?_
              refine lv_iadd hx hb dX7_countOf_65 ?_
              refine lv_istore_n (lv' := [(3, .int (v3_1 + 1)), (4, .int v4_2), (0, .ref (G.2.2 130)), (1, .int a1), (2, .int a2)]) hx hb dX7_countOf_66 rfl hl (by decide) rfl (fun ls hl => ?_)
              refine lv_iinc (v := v4_2 + 1) (lv' := [(4, .int (v4_2 + 1)), (3, .int (v3_1 + 1)), (0, .ref (G.2.2 130)), (1, .int a1), (2, .int a2)]) hx hb dX7_countOf_67 hl (k := 1) rfl rfl (by decide) rfl (fun ls hl => ?_)
              refine lv_goto (tgt := 9) hx hb dX7_countOf_70 (by decide) ?_
              exact ih8 _ _ _ hw.1 (Nat.lt_of_lt_of_le hw.2 (Nat.le_of_lt_succ hlt9)) _ _ hP hS ls (lv_sub hl [0, 1, 2, 3, 4] rfl)
  exact L10 _ _ _ _ hI (Nat.lt_succ_self _) _ _ hP hS ls (lv_sub hl [0, 1, 2, 3, 4] rfl)
theorem mw_X7_member : MW yX7_member cX7_member 3 (some .int) 2 := ⟨w_931, w_8, by decide +kernel⟩
def wp_X7_member (a1 : Int32) (a2 : Int32) (T : St) (post : Int32 → St → Prop) : Prop :=
  wp_X7_isRoutine a1 (sv T 130 0 0) (fun r2 T1 => (¬ r2 = 0 → (a2 = 0 → vp_in a1 10 ∧ ((T1.1 133 a1.toNatClampNeg = 0 → post 0 T1) ∧ (¬ T1.1 133 a1.toNatClampNeg = 0 → post 1 T1))) ∧ (¬ a2 = 0 → (a2 = 1 → wp_X7_countOf a1 1 T1 (fun r9 T8 => post r9 T8)) ∧ (¬ a2 = 1 → (a2 = 2 → wp_X7_countOf a1 0 T1 (fun r12 T11 => post r12 T11)) ∧ (¬ a2 = 2 → (a2 = 3 → vp_in a1 10 ∧ (post (T1.1 137 a1.toNatClampNeg) T1)) ∧ (¬ a2 = 3 → (a2 = 4 → vp_in a1 10 ∧ ((T1.1 137 a1.toNatClampNeg < 3 → post 0 T1) ∧ (¬ T1.1 137 a1.toNatClampNeg < 3 → post 1 T1))) ∧ (¬ a2 = 4 → (a2 = 5 → vp_in a1 10 ∧ ((T1.1 138 a1.toNatClampNeg = 0 → post 0 T1) ∧ (¬ T1.1 138 a1.toNatClampNeg = 0 → post 1 T1))) ∧ (¬ a2 = 5 → (a2 = 6 → vp_in a1 10 ∧ (post (T1.1 132 a1.toNatClampNeg) T1)) ∧ (¬ a2 = 6 → post (-2) T1)))))))) ∧ (r2 = 0 → post (-1) T1))
set_option maxHeartbeats 4000000 in
set_option maxRecDepth 100000 in
theorem m_X7_member (l : Launch) (G : Gm) (hi : Inj G) (a1 : Int32) (a2 : Int32)  (T : St) (post : Int32 → St → Prop) (hw : wp_X7_member a1 a2 T post) : Mi l yX7_member cX7_member 3 (some .int) 2 43 G [.ref (G.2.2 130), .int a1, .int a2] T post := by
  refine sy_head hi (by decide) (Nat.le_of_ble_eq_true rfl) (lv := [(0, .ref (G.2.2 130)), (1, .int a1), (2, .int a2)]) rfl ?_
  intro p e s m below meth c C hr hlocks hP hS ls hl
  have C : Cx p s m _ c cX7_member 3 RX7 G := C
  obtain ⟨hx, hb, hml, hown, hg, hK, hN, -⟩ := id C
  unfold wp_X7_member at hw
  refine lv_aload_n hx hb dX7_member_0 rfl (lv_at hl 0 rfl) ?_
  refine lv_iconst (v := 0) hx hb dX7_member_1 (by decide) ?_
  refine pf_X7_71 C hP hS (fun _ h => h) (o := 130) rfl dX7_member_2 (fun H locs hP hS => ?_)
  refine lv_aload_n hx hb dX7_member_5 rfl (lv_at hl 0 rfl) ?_
  refine lv_iload_n hx hb dX7_member_6 rfl (lv_at hl 1 rfl) ?_
  refine sy_goi (sy_runV C hP rfl rfl (m_X7_isRoutine l G hi _ _ _ hw) mw_X7_isRoutine w_934 ws_33 w_932 (rest := []) rfl hl.1 rfl (Nat.le_of_ble_eq_true rfl) ⟨Nat.le_of_ble_eq_true rfl, Nat.le_of_ble_eq_true rfl⟩ dX7_member_7 ⟨Nat.zero_le _, Nat.zero_le _⟩) hS (fun _ h => h) (fun r2 T1 H locs hw hP hS => ?_)
  refine lv_if_ne (tgt := 15) hx hb dX7_member_10 (by decide) (fun hc3 => ?_) (fun hc3 => ?_)
  · have hw := hw.1 hc3
    refine lv_iload_n hx hb dX7_member_15 rfl (lv_at hl 2 rfl) ?_
    by_cases hs4 : a2 = 0
    · have hw := hw.1 hs4
      refine lv_tableIn (off := 44) (tgt := 60) hx hb dX7_member_16 (by rw [hs4]; decide) (by rw [hs4]; decide) (by rw [hs4]; rfl) (by decide) ?_
      refine lv_aload_n hx hb dX7_member_60 rfl (lv_at hl 0 rfl) ?_
      refine gf_X7_16 C hP (o := 130) rfl dX7_member_61 ?_
      refine lv_iload_n hx hb dX7_member_64 rfl (lv_at hl 1 rfl) ?_
      obtain ⟨hn5, hw⟩ := hw
      refine sy_zald C hP (o := 133) rfl rfl hn5 dX7_member_65 ?_
      refine lv_if_eq (tgt := 73) hx hb dX7_member_66 (by decide) (fun hc6 => ?_) (fun hc6 => ?_)
      · have hw := hw.1 hc6
        refine lv_iconst (v := 0) hx hb dX7_member_73 (by decide) ?_
        exact sy_iret C hr hlocks hP hS hw dX7_member_74
      · have hw := hw.2 hc6
        refine lv_iconst (v := 1) hx hb dX7_member_69 (by decide) ?_
        refine lv_goto (tgt := 74) hx hb dX7_member_70 (by decide) ?_
        exact sy_iret C hr hlocks hP hS hw dX7_member_74
    · have hw := hw.2 hs4
      by_cases hs7 : a2 = 1
      · have hw := hw.1 hs7
        refine lv_tableIn (off := 59) (tgt := 75) hx hb dX7_member_16 (by rw [hs7]; decide) (by rw [hs7]; decide) (by rw [hs7]; rfl) (by decide) ?_
        refine lv_aload_n hx hb dX7_member_75 rfl (lv_at hl 0 rfl) ?_
        refine lv_iload_n hx hb dX7_member_76 rfl (lv_at hl 1 rfl) ?_
        refine lv_iconst (v := 1) hx hb dX7_member_77 (by decide) ?_
        refine sy_goi (sy_runV C hP rfl rfl (m_X7_countOf l G hi _ _ _ _ hw) mw_X7_countOf w_938 ws_34 w_936 (rest := []) rfl hl.1 rfl (Nat.le_of_ble_eq_true rfl) ⟨Nat.le_of_ble_eq_true rfl, Nat.le_of_ble_eq_true rfl⟩ dX7_member_78 ⟨Nat.zero_le _, Nat.zero_le _⟩) hS (fun _ h => h) (fun r9 T8 H locs hw hP hS => ?_)
        exact sy_iret C hr hlocks hP hS hw dX7_member_81
      · have hw := hw.2 hs7
        by_cases hs10 : a2 = 2
        · have hw := hw.1 hs10
          refine lv_tableIn (off := 66) (tgt := 82) hx hb dX7_member_16 (by rw [hs10]; decide) (by rw [hs10]; decide) (by rw [hs10]; rfl) (by decide) ?_
          refine lv_aload_n hx hb dX7_member_82 rfl (lv_at hl 0 rfl) ?_
          refine lv_iload_n hx hb dX7_member_83 rfl (lv_at hl 1 rfl) ?_
          refine lv_iconst (v := 0) hx hb dX7_member_84 (by decide) ?_
          refine sy_goi (sy_runV C hP rfl rfl (m_X7_countOf l G hi _ _ _ _ hw) mw_X7_countOf w_938 ws_34 w_936 (rest := []) rfl hl.1 rfl (Nat.le_of_ble_eq_true rfl) ⟨Nat.le_of_ble_eq_true rfl, Nat.le_of_ble_eq_true rfl⟩ dX7_member_85 ⟨Nat.zero_le _, Nat.zero_le _⟩) hS (fun _ h => h) (fun r12 T11 H locs hw hP hS => ?_)
          exact sy_iret C hr hlocks hP hS hw dX7_member_88
        · have hw := hw.2 hs10
          by_cases hs13 : a2 = 3
          · have hw := hw.1 hs13
            refine lv_tableIn (off := 73) (tgt := 89) hx hb dX7_member_16 (by rw [hs13]; decide) (by rw [hs13]; decide) (by rw [hs13]; rfl) (by decide) ?_
            refine lv_aload_n hx hb dX7_member_89 rfl (lv_at hl 0 rfl) ?_
            refine gf_X7_29 C hP (o := 130) rfl dX7_member_90 ?_
            refine lv_iload_n hx hb dX7_member_93 rfl (lv_at hl 1 rfl) ?_
            obtain ⟨hn14, hw⟩ := hw
            refine sy_iald C hP (o := 137) rfl rfl hn14 dX7_member_94 ?_
            exact sy_iret C hr hlocks hP hS hw dX7_member_95
          · have hw := hw.2 hs13
            by_cases hs15 : a2 = 4
            · have hw := hw.1 hs15
              refine lv_tableIn (off := 80) (tgt := 96) hx hb dX7_member_16 (by rw [hs15]; decide) (by rw [hs15]; decide) (by rw [hs15]; rfl) (by decide) ?_
              refine lv_aload_n hx hb dX7_member_96 rfl (lv_at hl 0 rfl) ?_
              refine gf_X7_29 C hP (o := 130) rfl dX7_member_97 ?_
              refine lv_iload_n hx hb dX7_member_100 rfl (lv_at hl 1 rfl) ?_
              obtain ⟨hn16, hw⟩ := hw
              refine sy_iald C hP (o := 137) rfl rfl hn16 dX7_member_101 ?_
              refine lv_iconst (v := 3) hx hb dX7_member_102 (by decide) ?_
              refine lv_icmp_lt (tgt := 110) hx hb dX7_member_103 (by decide) (fun hc17 => ?_) (fun hc17 => ?_)
              · have hw := hw.1 hc17
                refine lv_iconst (v := 0) hx hb dX7_member_110 (by decide) ?_
                exact sy_iret C hr hlocks hP hS hw dX7_member_111
              · have hw := hw.2 hc17
                refine lv_iconst (v := 1) hx hb dX7_member_106 (by decide) ?_
                refine lv_goto (tgt := 111) hx hb dX7_member_107 (by decide) ?_
                exact sy_iret C hr hlocks hP hS hw dX7_member_111
            · have hw := hw.2 hs15
              by_cases hs18 : a2 = 5
              · have hw := hw.1 hs18
                refine lv_tableIn (off := 96) (tgt := 112) hx hb dX7_member_16 (by rw [hs18]; decide) (by rw [hs18]; decide) (by rw [hs18]; rfl) (by decide) ?_
                refine lv_aload_n hx hb dX7_member_112 rfl (lv_at hl 0 rfl) ?_
                refine gf_X7_32 C hP (o := 130) rfl dX7_member_113 ?_
                refine lv_iload_n hx hb dX7_member_116 rfl (lv_at hl 1 rfl) ?_
                obtain ⟨hn19, hw⟩ := hw
                refine sy_zald C hP (o := 138) rfl rfl hn19 dX7_member_117 ?_
                refine lv_if_eq (tgt := 125) hx hb dX7_member_118 (by decide) (fun hc20 => ?_) (fun hc20 => ?_)
                · have hw := hw.1 hc20
                  refine lv_iconst (v := 0) hx hb dX7_member_125 (by decide) ?_
                  exact sy_iret C hr hlocks hP hS hw dX7_member_126
                · have hw := hw.2 hc20
                  refine lv_iconst (v := 1) hx hb dX7_member_121 (by decide) ?_
                  refine lv_goto (tgt := 126) hx hb dX7_member_122 (by decide) ?_
                  exact sy_iret C hr hlocks hP hS hw dX7_member_126
              · have hw := hw.2 hs18
                by_cases hs21 : a2 = 6
                · have hw := hw.1 hs21
                  refine lv_tableIn (off := 111) (tgt := 127) hx hb dX7_member_16 (by rw [hs21]; decide) (by rw [hs21]; decide) (by rw [hs21]; rfl) (by decide) ?_
                  refine lv_aload_n hx hb dX7_member_127 rfl (lv_at hl 0 rfl) ?_
                  refine gf_X7_13 C hP (o := 130) rfl dX7_member_128 ?_
                  refine lv_iload_n hx hb dX7_member_131 rfl (lv_at hl 1 rfl) ?_
                  obtain ⟨hn22, hw⟩ := hw
                  refine sy_iald C hP (o := 132) rfl rfl hn22 dX7_member_132 ?_
                  exact sy_iret C hr hlocks hP hS hw dX7_member_133
                · have hw := hw.2 hs21
                  have ahs4 : (a2).toInt ≠ 0 := ne_toI hs4
                  have ahs7 : (a2).toInt ≠ 1 := ne_toI hs7
                  have ahs10 : (a2).toInt ≠ 2 := ne_toI hs10
                  have ahs13 : (a2).toInt ≠ 3 := ne_toI hs13
                  have ahs15 : (a2).toInt ≠ 4 := ne_toI hs15
                  have ahs18 : (a2).toInt ≠ 5 := ne_toI hs18
                  have ahs21 : (a2).toInt ≠ 6 := ne_toI hs21
                  refine lv_tableOut (tgt := 134) hx hb dX7_member_16 (by omega) (by decide) ?_
                  refine lv_bipush (v := (-2)) hx hb dX7_member_134 (by decide) ?_
                  exact sy_iret C hr hlocks hP hS hw dX7_member_136
  · have hw := hw.2 hc3
    refine lv_iconst (v := (-1)) hx hb dX7_member_13 (by decide) ?_
    exact sy_iret C hr hlocks hP hS hw dX7_member_14
theorem mw_X7_head : MW yX7_head cX7_head 5 (some .int) 2 := ⟨w_943, w_8, by decide +kernel⟩
def wj_X7_head_79 (a1 : Int32) (k14 : (Int32 × Int32) → St → Prop) (j3_23 : Int32) (j4_24 : Int32) (T25 : St) (post : Int32 → St → Prop) : Prop :=
  vp_in ((256 * a1) + j4_24) 2560 ∧ ((T25.1 134 ((256 * a1) + j4_24).toNatClampNeg = 0 → k14 (j3_23 - 0, j4_24 + 1) T25) ∧ (¬ T25.1 134 ((256 * a1) + j4_24).toNatClampNeg = 0 → k14 (j3_23 - 1, j4_24 + 1) T25))
def wb_X7_head_59 (a1 : Int32) (k14 : (Int32 × Int32) → St → Prop) (v3_11 : Int32) (v4_12 : Int32) (T13 : St) (post : Int32 → St → Prop) : Prop :=
  vp_in ((256 * a1) + v4_12) 2560 ∧ ((T13.1 134 ((256 * a1) + v4_12).toNatClampNeg = 0 → wj_X7_head_79 a1 k14 v3_11 v4_12 T13 post) ∧ (¬ T13.1 134 ((256 * a1) + v4_12).toNatClampNeg = 0 → (v3_11 ≤ 0 → post v4_12 T13) ∧ (¬ v3_11 ≤ 0 → wj_X7_head_79 a1 k14 v3_11 v4_12 T13 post)))
def wp_X7_head (a1 : Int32) (a2 : Int32) (T : St) (post : Int32 → St → Prop) : Prop :=
  wp_X7_isRoutine a1 (sv T 130 0 0) (fun r2 T1 => (¬ r2 = 0 → vp_in a1 10 ∧ ((¬ T1.1 133 a1.toNatClampNeg = 0 → wp_X7_countOf a1 1 T1 (fun r7 T6 => wp_X7_in a2 0 (r7 - 1) T6 (fun r9 T8 => (¬ r9 = 0 → LW (fun kl (vl : Int32 × Int32) Tl => wb_X7_head_59 a1 kl vl.1 vl.2 Tl post) (a2, 0) T8) ∧ (r9 = 0 → post 0 (sv T8 130 0 2))))) ∧ (T1.1 133 a1.toNatClampNeg = 0 → post 0 (sv T1 130 0 1)))) ∧ (r2 = 0 → post (-1) T1))
set_option maxHeartbeats 4000000 in
set_option maxRecDepth 100000 in
theorem m_X7_head (l : Launch) (G : Gm) (hi : Inj G) (a1 : Int32) (a2 : Int32)  (T : St) (post : Int32 → St → Prop) (hw : wp_X7_head a1 a2 T post) : Mi l yX7_head cX7_head 5 (some .int) 2 43 G [.ref (G.2.2 130), .int a1, .int a2] T post := by
  refine sy_head hi (by decide) (Nat.le_of_ble_eq_true rfl) (lv := [(0, .ref (G.2.2 130)), (1, .int a1), (2, .int a2)]) rfl ?_
  intro p e s m below meth c C hr hlocks hP hS ls hl
  have C : Cx p s m _ c cX7_head 5 RX7 G := C
  obtain ⟨hx, hb, hml, hown, hg, hK, hN, -⟩ := id C
  unfold wp_X7_head at hw
  refine lv_aload_n hx hb dX7_head_0 rfl (lv_at hl 0 rfl) ?_
  refine lv_iconst (v := 0) hx hb dX7_head_1 (by decide) ?_
  refine pf_X7_71 C hP hS (fun _ h => h) (o := 130) rfl dX7_head_2 (fun H locs hP hS => ?_)
  refine lv_aload_n hx hb dX7_head_5 rfl (lv_at hl 0 rfl) ?_
  refine lv_iload_n hx hb dX7_head_6 rfl (lv_at hl 1 rfl) ?_
  refine sy_goi (sy_runV C hP rfl rfl (m_X7_isRoutine l G hi _ _ _ hw) mw_X7_isRoutine w_934 ws_33 w_932 (rest := []) rfl hl.1 rfl (Nat.le_of_ble_eq_true rfl) ⟨Nat.le_of_ble_eq_true rfl, Nat.le_of_ble_eq_true rfl⟩ dX7_head_7 ⟨Nat.zero_le _, Nat.zero_le _⟩) hS (fun _ h => h) (fun r2 T1 H locs hw hP hS => ?_)
  refine lv_if_ne (tgt := 15) hx hb dX7_head_10 (by decide) (fun hc3 => ?_) (fun hc3 => ?_)
  · have hw := hw.1 hc3
    refine lv_aload_n hx hb dX7_head_15 rfl (lv_at hl 0 rfl) ?_
    refine gf_X7_16 C hP (o := 130) rfl dX7_head_16 ?_
    refine lv_iload_n hx hb dX7_head_19 rfl (lv_at hl 1 rfl) ?_
    obtain ⟨hn4, hw⟩ := hw
    refine sy_zald C hP (o := 133) rfl rfl hn4 dX7_head_20 ?_
    refine lv_if_ne (tgt := 31) hx hb dX7_head_21 (by decide) (fun hc5 => ?_) (fun hc5 => ?_)
    · have hw := hw.1 hc5
      refine lv_iload_n hx hb dX7_head_31 rfl (lv_at hl 2 rfl) ?_
      refine lv_iconst (v := 0) hx hb dX7_head_32 (by decide) ?_
      refine lv_aload_n hx hb dX7_head_33 rfl (lv_at hl 0 rfl) ?_
      refine lv_iload_n hx hb dX7_head_34 rfl (lv_at hl 1 rfl) ?_
      refine lv_iconst (v := 1) hx hb dX7_head_35 (by decide) ?_
      refine sy_goi (sy_runV C hP rfl rfl (m_X7_countOf l G hi _ _ _ _ hw) mw_X7_countOf w_938 ws_34 w_936 (rest := [.int 0, .int a2]) rfl hl.1 rfl (Nat.le_of_ble_eq_true rfl) ⟨Nat.le_of_ble_eq_true rfl, Nat.le_of_ble_eq_true rfl⟩ dX7_head_36 ⟨Nat.zero_le _, Nat.zero_le _⟩) hS (fun _ h => h) (fun r7 T6 H locs hw hP hS => ?_)
      refine lv_iconst (v := 1) hx hb dX7_head_39 (by decide) ?_
      refine lv_isub hx hb dX7_head_40 ?_
      refine sy_goi (sy_runS C hP (m_X7_in l G hi _ _ _ _ _ hw) mw_X7_in w_874 w_873 (rest := []) rfl hl.1 rfl (Nat.le_of_ble_eq_true rfl) ⟨Nat.le_of_ble_eq_true rfl, Nat.le_of_ble_eq_true rfl⟩ dX7_head_41 ⟨Nat.zero_le _, Nat.zero_le _⟩) hS (fun _ h => h) (fun r9 T8 H locs hw hP hS => ?_)
      refine lv_if_ne (tgt := 54) hx hb dX7_head_44 (by decide) (fun hc10 => ?_) (fun hc10 => ?_)
      · have hw := hw.1 hc10
        refine lv_iload_n hx hb dX7_head_54 rfl (lv_at hl 2 rfl) ?_
        refine lv_istore_n (lv' := [(3, .int a2), (0, .ref (G.2.2 130)), (1, .int a1), (2, .int a2)]) hx hb dX7_head_55 rfl hl (by decide) rfl (fun ls hl => ?_)
        refine lv_iconst (v := 0) hx hb dX7_head_56 (by decide) ?_
        refine lv_istore (lv' := [(4, .int 0), (3, .int a2), (0, .ref (G.2.2 130)), (1, .int a1), (2, .int a2)]) hx hb dX7_head_57 hl (by decide) rfl (fun ls hl => ?_)
        obtain ⟨I15, u16, hI, hst17⟩ := hw
        have L20 : ∀ (n : Nat) (v3_11 : Int32) (v4_12 : Int32) (T13 : St), I15 (v3_11, v4_12) T13 → u16 (v3_11, v4_12) T13 < n → ∀ (H : Heap) (locs : List Loc), va_P G.1 sc_cl (wd G T13) H → va_S (SA G) s.heap H locs → ∀ ls : Array Slot, lv_has ls 5 [(4, .int v4_12), (3, .int v3_11), (0, .ref (G.2.2 130)), (1, .int a1)] → W p l e { frames := 2, cells := 0, slots := 0, locals := 43 } s m ([.ref (G.2.2 130), .int a1, .int a2] : List Value).toArray below meth c H locs 0 0 (MQ below (va_Qi post (Sy G) (SA G)) ([.ref (G.2.2 130), .int a1, .int a2] : List Value).toArray s 0 0 (SA G)) (F0 m 59 ls []) := by
          intro n
          induction n with
          | zero => intro _ _ _ _ h; exact absurd h (Nat.not_lt_zero _)
          | succ n ih18 =>
            intro v3_11 v4_12 T13 hI hlt19 H locs hP hS ls hl
            have hw := hst17 (v3_11, v4_12) T13 hI
            unfold wb_X7_head_59 at hw
            have J28 : ∀ (j3_23 : Int32) (j4_24 : Int32) (T25 : St), wj_X7_head_79 a1 (fun v' T' => I15 v' T' ∧ u16 v' T' < u16 (v3_11, v4_12) T13) j3_23 j4_24 T25 post → ∀ (H : Heap) (locs : List Loc), va_P G.1 sc_cl (wd G T25) H → va_S (SA G) s.heap H locs → ∀ ls : Array Slot, lv_has ls 5 [(0, .ref (G.2.2 130)), (1, .int a1), (3, .int j3_23), (4, .int j4_24)] → W p l e { frames := 2, cells := 0, slots := 0, locals := 43 } s m ([.ref (G.2.2 130), .int a1, .int a2] : List Value).toArray below meth c H locs 0 0 (MQ below (va_Qi post (Sy G) (SA G)) ([.ref (G.2.2 130), .int a1, .int a2] : List Value).toArray s 0 0 (SA G)) (F0 m 79 ls []) := by
              intro j3_23 j4_24 T25  hw H locs hP hS ls hl
              unfold wj_X7_head_79 at hw
              refine lv_iload_n hx hb dX7_head_79 rfl (lv_at hl 2 rfl) ?_
              refine lv_aload_n hx hb dX7_head_80 rfl (lv_at hl 0 rfl) ?_
              refine gf_X7_20 C hP (o := 130) rfl dX7_head_81 ?_
              refine lv_sipush (v := 256) hx hb dX7_head_84 (by decide) ?_
              refine lv_iload_n hx hb dX7_head_87 rfl (lv_at hl 1 rfl) ?_
              refine lv_imul hx hb dX7_head_88 ?_
              refine lv_iload hx hb dX7_head_89 (lv_at hl 3 rfl) ?_
              refine lv_iadd hx hb dX7_head_91 ?_
              obtain ⟨hn26, hw⟩ := hw
              refine sy_zald C hP (o := 134) rfl rfl hn26 dX7_head_92 ?_
              refine lv_if_eq (tgt := 100) hx hb dX7_head_93 (by decide) (fun hc27 => ?_) (fun hc27 => ?_)
              · have hw := hw.1 hc27
                refine lv_iconst (v := 0) hx hb dX7_head_100 (by decide) ?_
                refine lv_isub hx hb dX7_head_101 ?_
                refine lv_istore_n (lv' := [(3, .int (j3_23 - 0)), (0, .ref (G.2.2 130)), (1, .int a1), (4, .int j4_24)]) hx hb dX7_head_102 rfl hl (by decide) rfl (fun ls hl => ?_)
                refine lv_iinc (v := j4_24 + 1) (lv' := [(4, .int (j4_24 + 1)), (3, .int (j3_23 - 0)), (0, .ref (G.2.2 130)), (1, .int a1)]) hx hb dX7_head_103 hl (k := 3) rfl rfl (by decide) rfl (fun ls hl => ?_)
                refine lv_goto (tgt := 59) hx hb dX7_head_106 (by decide) ?_
                exact ih18 _ _ _ hw.1 (Nat.lt_of_lt_of_le hw.2 (Nat.le_of_lt_succ hlt19)) _ _ hP hS ls (lv_sub hl [0, 1, 2, 3] rfl)
              · have hw := hw.2 hc27
                refine lv_iconst (v := 1) hx hb dX7_head_96 (by decide) ?_
                refine lv_goto (tgt := 101) hx hb dX7_head_97 (by decide) ?_
                refine lv_isub hx hb dX7_head_101 ?_
                refine lv_istore_n (lv' := [(3, .int (j3_23 - 1)), (0, .ref (G.2.2 130)), (1, .int a1), (4, .int j4_24)]) hx hb dX7_head_102 rfl hl (by decide) rfl (fun ls hl => ?_)
                refine lv_iinc (v := j4_24 + 1) (lv' := [(4, .int (j4_24 + 1)), (3, .int (j3_23 - 1)), (0, .ref (G.2.2 130)), (1, .int a1)]) hx hb dX7_head_103 hl (k := 3) rfl rfl (by decide) rfl (fun ls hl => ?_)
                refine lv_goto (tgt := 59) hx hb dX7_head_106 (by decide) ?_
                exact ih18 _ _ _ hw.1 (Nat.lt_of_lt_of_le hw.2 (Nat.le_of_lt_succ hlt19)) _ _ hP hS ls (lv_sub hl [0, 1, 2, 3] rfl)
            refine lv_aload_n hx hb dX7_head_59 rfl (lv_at hl 2 rfl) ?_
            refine gf_X7_20 C hP (o := 130) rfl dX7_head_60 ?_
            refine lv_sipush (v := 256) hx hb dX7_head_63 (by decide) ?_
            refine lv_iload_n hx hb dX7_head_66 rfl (lv_at hl 3 rfl) ?_
            refine lv_imul hx hb dX7_head_67 ?_
            refine lv_iload hx hb dX7_head_68 (lv_at hl 0 rfl) ?_
            refine lv_iadd hx hb dX7_head_70 ?_
            obtain ⟨hn21, hw⟩ := hw
            refine sy_zald C hP (o := 134) rfl rfl hn21 dX7_head_71 ?_
            refine lv_if_eq (tgt := 79) hx hb dX7_head_72 (by decide) (fun hc22 => ?_) (fun hc22 => ?_)
            · have hw := hw.1 hc22
              exact J28 _ _ _  hw _ _ hP hS ls (lv_sub hl [2, 3, 1, 0] rfl)
            · have hw := hw.2 hc22
              refine lv_iload_n hx hb dX7_head_75 rfl (lv_at hl 1 rfl) ?_
              refine lv_if_le (tgt := 109) hx hb dX7_head_76 (by decide) (fun hc29 => ?_) (fun hc29 => ?_)
              · have hw := hw.1 hc29
                refine lv_iload hx hb dX7_head_109 (lv_at hl 0 rfl) ?_
                exact sy_iret C hr hlocks hP hS hw dX7_head_111
              · have hw := hw.2 hc29
                exact J28 _ _ _  hw _ _ hP hS ls (lv_sub hl [2, 3, 1, 0] rfl)
        exact L20 _ _ _ _ hI (Nat.lt_succ_self _) _ _ hP hS ls (lv_sub hl [0, 1, 2, 3] rfl)
      · have hw := hw.2 hc10
        refine lv_aload_n hx hb dX7_head_47 rfl (lv_at hl 0 rfl) ?_
        refine lv_iconst (v := 2) hx hb dX7_head_48 (by decide) ?_
        refine pf_X7_71 C hP hS (fun _ h => h) (o := 130) rfl dX7_head_49 (fun H locs hP hS => ?_)
        refine lv_iconst (v := 0) hx hb dX7_head_52 (by decide) ?_
        exact sy_iret C hr hlocks hP hS hw dX7_head_53
    · have hw := hw.2 hc5
      refine lv_aload_n hx hb dX7_head_24 rfl (lv_at hl 0 rfl) ?_
      refine lv_iconst (v := 1) hx hb dX7_head_25 (by decide) ?_
      refine pf_X7_71 C hP hS (fun _ h => h) (o := 130) rfl dX7_head_26 (fun H locs hP hS => ?_)
      refine lv_iconst (v := 0) hx hb dX7_head_29 (by decide) ?_
      exact sy_iret C hr hlocks hP hS hw dX7_head_30
  · have hw := hw.2 hc3
    refine lv_iconst (v := (-1)) hx hb dX7_head_13 (by decide) ?_
    exact sy_iret C hr hlocks hP hS hw dX7_head_14
theorem mw_X7_makeable : MW yX7_makeable cX7_makeable 2 (some .int) 1 := ⟨w_947, w_8, by decide +kernel⟩
def wp_X7_makeable (a1 : Int32) (T : St) (post : Int32 → St → Prop) : Prop :=
  wp_X7_isRoutine a1 (sv T 130 0 0) (fun r2 T1 => (¬ r2 = 0 → vp_in a1 10 ∧ (wp_X7_find (T1.1 132 a1.toNatClampNeg) T1 (fun r6 T5 => (r6 = 0 → post 0 T5) ∧ (¬ r6 = 0 → post 1 T5)))) ∧ (r2 = 0 → post (-1) T1))
set_option maxHeartbeats 4000000 in
set_option maxRecDepth 100000 in
theorem m_X7_makeable (l : Launch) (G : Gm) (hi : Inj G) (a1 : Int32)  (T : St) (post : Int32 → St → Prop) (hw : wp_X7_makeable a1 T post) : Mi l yX7_makeable cX7_makeable 2 (some .int) 3 66 G [.ref (G.2.2 130), .int a1] T post := by
  refine sy_head hi (by decide) (Nat.le_of_ble_eq_true rfl) (lv := [(0, .ref (G.2.2 130)), (1, .int a1)]) rfl ?_
  intro p e s m below meth c C hr hlocks hP hS ls hl
  have C : Cx p s m _ c cX7_makeable 2 RX7 G := C
  obtain ⟨hx, hb, hml, hown, hg, hK, hN, -⟩ := id C
  unfold wp_X7_makeable at hw
  refine lv_aload_n hx hb dX7_makeable_0 rfl (lv_at hl 0 rfl) ?_
  refine lv_iconst (v := 0) hx hb dX7_makeable_1 (by decide) ?_
  refine pf_X7_71 C hP hS (fun _ h => h) (o := 130) rfl dX7_makeable_2 (fun H locs hP hS => ?_)
  refine lv_aload_n hx hb dX7_makeable_5 rfl (lv_at hl 0 rfl) ?_
  refine lv_iload_n hx hb dX7_makeable_6 rfl (lv_at hl 1 rfl) ?_
  refine sy_goi (sy_runV C hP rfl rfl (m_X7_isRoutine l G hi _ _ _ hw) mw_X7_isRoutine w_934 ws_33 w_932 (rest := []) rfl hl.1 rfl (Nat.le_of_ble_eq_true rfl) ⟨Nat.le_of_ble_eq_true rfl, Nat.le_of_ble_eq_true rfl⟩ dX7_makeable_7 ⟨Nat.zero_le _, Nat.zero_le _⟩) hS (fun _ h => h) (fun r2 T1 H locs hw hP hS => ?_)
  refine lv_if_ne (tgt := 17) hx hb dX7_makeable_10 (by decide) (fun hc3 => ?_) (fun hc3 => ?_)
  · have hw := hw.1 hc3
    refine lv_aload_n hx hb dX7_makeable_17 rfl (lv_at hl 0 rfl) ?_
    refine lv_aload_n hx hb dX7_makeable_18 rfl (lv_at hl 0 rfl) ?_
    refine gf_X7_13 C hP (o := 130) rfl dX7_makeable_19 ?_
    refine lv_iload_n hx hb dX7_makeable_22 rfl (lv_at hl 1 rfl) ?_
    obtain ⟨hn4, hw⟩ := hw
    refine sy_iald C hP (o := 132) rfl rfl hn4 dX7_makeable_23 ?_
    refine sy_goi (sy_runV C hP rfl rfl (m_X7_find l G hi _ _ _ hw) mw_X7_find w_915 ws_30 w_913 (rest := []) rfl hl.1 rfl (Nat.le_of_ble_eq_true rfl) ⟨Nat.le_of_ble_eq_true rfl, Nat.le_of_ble_eq_true rfl⟩ dX7_makeable_24 ⟨Nat.zero_le _, Nat.zero_le _⟩) hS (fun _ h => h) (fun r6 T5 H locs hw hP hS => ?_)
    refine lv_if_eq (tgt := 34) hx hb dX7_makeable_27 (by decide) (fun hc7 => ?_) (fun hc7 => ?_)
    · have hw := hw.1 hc7
      refine lv_iconst (v := 0) hx hb dX7_makeable_34 (by decide) ?_
      exact sy_iret C hr hlocks hP hS hw dX7_makeable_35
    · have hw := hw.2 hc7
      refine lv_iconst (v := 1) hx hb dX7_makeable_30 (by decide) ?_
      refine lv_goto (tgt := 35) hx hb dX7_makeable_31 (by decide) ?_
      exact sy_iret C hr hlocks hP hS hw dX7_makeable_35
  · have hw := hw.2 hc3
    refine lv_iconst (v := (-1)) hx hb dX7_makeable_13 (by decide) ?_
    refine lv_goto (tgt := 35) hx hb dX7_makeable_14 (by decide) ?_
    exact sy_iret C hr hlocks hP hS hw dX7_makeable_35
theorem mw_X7_changes : MW yX7_changes cX7_changes 4 none 2 := ⟨w_967, w_8, by decide +kernel⟩
def wj_X7_changes_25   (j3_4 : Int32) (s5 : Int32) (s6 : Int32) (T7 : St) (post : St → Prop) : Prop :=
  (j3_4 ≤ 0 → post (sv (sv T7 130 38 (s6 + s5)) 130 37 (((sv T7 130 38 (s6 + s5)).1 130 37) + 0))) ∧ (¬ j3_4 ≤ 0 → post (sv (sv T7 130 38 (s6 + s5)) 130 37 (((sv T7 130 38 (s6 + s5)).1 130 37) + j3_4)))
def wp_X7_changes (a1 : Int32) (a2 : Int32) (T : St) (post : St → Prop) : Prop :=
  wp_X7_becomes a1 (a2 &&& 255) T (fun r2 T1 => (r2 < 0 → wj_X7_changes_25 r2 0 (T1.1 130 38) T1 post) ∧ (¬ r2 < 0 → wj_X7_changes_25 r2 1 (T1.1 130 38) T1 post))
set_option maxHeartbeats 4000000 in
set_option maxRecDepth 100000 in
theorem m_X7_changes (l : Launch) (G : Gm) (hi : Inj G) (a1 : Int32) (a2 : Int32)  (T : St) (post : St → Prop) (hw : wp_X7_changes a1 a2 T post) : Mv l yX7_changes cX7_changes 4 none 2 48 G [.ref (G.2.2 130), .int a1, .int a2] T post := by
  refine sy_head hi (by decide) (Nat.le_of_ble_eq_true rfl) (lv := [(0, .ref (G.2.2 130)), (1, .int a1), (2, .int a2)]) rfl ?_
  intro p e s m below meth c C hr hlocks hP hS ls hl
  have C : Cx p s m _ c cX7_changes 4 RX7 G := C
  obtain ⟨hx, hb, hml, hown, hg, hK, hN, -⟩ := id C
  unfold wp_X7_changes at hw
  have J9 : ∀ (j3_4 : Int32) (s5 : Int32) (s6 : Int32) (T7 : St), wj_X7_changes_25   j3_4 s5 s6 T7 post → ∀ (H : Heap) (locs : List Loc), va_P G.1 sc_cl (wd G T7) H → va_S (SA G) s.heap H locs → ∀ ls : Array Slot, lv_has ls 4 [(0, .ref (G.2.2 130)), (3, .int j3_4)] → W p l e { frames := 2, cells := 0, slots := 0, locals := 48 } s m ([.ref (G.2.2 130), .int a1, .int a2] : List Value).toArray below meth c H locs 0 0 (MQ below (va_Qv post (Sy G) (SA G)) ([.ref (G.2.2 130), .int a1, .int a2] : List Value).toArray s 0 0 (SA G)) (F0 m 25 ls [.int s5, .int s6, .ref (G.2.2 130)]) := by
    intro j3_4 s5 s6 T7  hw H locs hP hS ls hl
    unfold wj_X7_changes_25 at hw
    refine lv_iadd hx hb dX7_changes_25 ?_
    refine pf_X7_134 C hP hS (fun _ h => h) (o := 130) rfl dX7_changes_26 (fun H locs hP hS => ?_)
    refine lv_aload_n hx hb dX7_changes_29 rfl (lv_at hl 0 rfl) ?_
    refine lv_dup hx hb dX7_changes_30 rfl ?_
    refine gf_X7_137 C hP (o := 130) rfl dX7_changes_31 ?_
    refine lv_iload_n hx hb dX7_changes_34 rfl (lv_at hl 1 rfl) ?_
    refine lv_if_le (tgt := 42) hx hb dX7_changes_35 (by decide) (fun hc8 => ?_) (fun hc8 => ?_)
    · have hw := hw.1 hc8
      refine lv_iconst (v := 0) hx hb dX7_changes_42 (by decide) ?_
      refine lv_iadd hx hb dX7_changes_43 ?_
      refine pf_X7_137 C hP hS (fun _ h => h) (o := 130) rfl dX7_changes_44 (fun H locs hP hS => ?_)
      exact sy_vret C hr hlocks hP hS hw dX7_changes_47
    · have hw := hw.2 hc8
      refine lv_iload_n hx hb dX7_changes_38 rfl (lv_at hl 1 rfl) ?_
      refine lv_goto (tgt := 43) hx hb dX7_changes_39 (by decide) ?_
      refine lv_iadd hx hb dX7_changes_43 ?_
      refine pf_X7_137 C hP hS (fun _ h => h) (o := 130) rfl dX7_changes_44 (fun H locs hP hS => ?_)
      exact sy_vret C hr hlocks hP hS hw dX7_changes_47
  refine lv_aload_n hx hb dX7_changes_0 rfl (lv_at hl 0 rfl) ?_
  refine lv_iload_n hx hb dX7_changes_1 rfl (lv_at hl 1 rfl) ?_
  refine lv_iload_n hx hb dX7_changes_2 rfl (lv_at hl 2 rfl) ?_
  refine lv_sipush (v := 255) hx hb dX7_changes_3 (by decide) ?_
  refine lv_iand hx hb dX7_changes_6 ?_
  refine sy_goi (sy_runV C hP rfl rfl (m_X7_becomes l G hi _ _ _ _ hw) mw_X7_becomes w_883 ws_26 w_881 (rest := []) rfl hl.1 rfl (Nat.le_of_ble_eq_true rfl) ⟨Nat.le_of_ble_eq_true rfl, Nat.le_of_ble_eq_true rfl⟩ dX7_changes_7 ⟨Nat.zero_le _, Nat.zero_le _⟩) hS (fun _ h => h) (fun r2 T1 H locs hw hP hS => ?_)
  refine lv_istore_n (lv' := [(3, .int r2), (0, .ref (G.2.2 130)), (1, .int a1), (2, .int a2)]) hx hb dX7_changes_10 rfl hl (by decide) rfl (fun ls hl => ?_)
  refine lv_aload_n hx hb dX7_changes_11 rfl (lv_at hl 1 rfl) ?_
  refine lv_dup hx hb dX7_changes_12 rfl ?_
  refine gf_X7_134 C hP (o := 130) rfl dX7_changes_13 ?_
  refine lv_iload_n hx hb dX7_changes_16 rfl (lv_at hl 0 rfl) ?_
  refine lv_if_lt (tgt := 24) hx hb dX7_changes_17 (by decide) (fun hc3 => ?_) (fun hc3 => ?_)
  · have hw := hw.1 hc3
    refine lv_iconst (v := 0) hx hb dX7_changes_24 (by decide) ?_
    exact J9 _ _ _ _  hw _ _ hP hS ls (lv_sub hl [1, 0] rfl)
  · have hw := hw.2 hc3
    refine lv_iconst (v := 1) hx hb dX7_changes_20 (by decide) ?_
    refine lv_goto (tgt := 25) hx hb dX7_changes_21 (by decide) ?_
    exact J9 _ _ _ _  hw _ _ hP hS ls (lv_sub hl [1, 0] rfl)
theorem mw_X7_works : MW yX7_works cX7_works 4 none 2 := ⟨w_963, w_8, by decide +kernel⟩
def wp_X7_works (a1 : Int32) (a2 : Int32) (T : St) (post : St → Prop) : Prop :=
  (a1 = 1 → post (sv T 130 30 a2.toInt8.toInt32)) ∧ (¬ a1 = 1 → (a1 = 2 → post (sv T 130 30 ((T.1 130 30) + a2.toInt8.toInt32))) ∧ (¬ a1 = 2 → (a1 = 3 → post (sv (sv T 130 30 (T.1 130 31)) 130 31 (T.1 130 30))) ∧ (¬ a1 = 3 → (a1 = 4 → vp_in a2 256 ∧ (post (sv T 130 30 (T.1 131 a2.toNatClampNeg)))) ∧ (¬ a1 = 4 → (a1 = 5 → wp_X7_changes a2 (T.1 130 30) T (fun T7 => post T7)) ∧ (¬ a1 = 5 → (a1 = 6 → post T) ∧ (¬ a1 = 6 → (a1 = 7 → post T) ∧ (¬ a1 = 7 → (a1 = 8 → post (sv T 130 31 ((T.1 130 31) - 1))) ∧ (¬ a1 = 8 → (a1 = 9 → post T) ∧ (¬ a1 = 9 → (a1 = 10 → vp_in ((T.1 130 31) &&& 255) 256 ∧ (post (sv T 130 30 (T.1 131 ((T.1 130 31) &&& 255).toNatClampNeg)))) ∧ (¬ a1 = 10 → (a1 = 11 → wp_X7_changes ((T.1 130 31) &&& 255) (T.1 130 30) T (fun T16 => post T16)) ∧ (¬ a1 = 11 → (a1 = 12 → post (sv T 130 30 ((T.1 130 30) * (T.1 130 31)))) ∧ (¬ a1 = 12 → post T))))))))))))
set_option maxHeartbeats 4000000 in
set_option maxRecDepth 100000 in
theorem m_X7_works (l : Launch) (G : Gm) (hi : Inj G) (a1 : Int32) (a2 : Int32)  (T : St) (post : St → Prop) (hw : wp_X7_works a1 a2 T post) : Mv l yX7_works cX7_works 4 none 3 71 G [.ref (G.2.2 130), .int a1, .int a2] T post := by
  refine sy_head hi (by decide) (Nat.le_of_ble_eq_true rfl) (lv := [(0, .ref (G.2.2 130)), (1, .int a1), (2, .int a2)]) rfl ?_
  intro p e s m below meth c C hr hlocks hP hS ls hl
  have C : Cx p s m _ c cX7_works 4 RX7 G := C
  obtain ⟨hx, hb, hml, hown, hg, hK, hN, -⟩ := id C
  unfold wp_X7_works at hw
  refine lv_aload_n hx hb dX7_works_0 rfl (lv_at hl 0 rfl) ?_
  refine gf_X7_140 C hP (o := 130) rfl dX7_works_1 ?_
  refine lv_istore_n (lv' := [(3, .int (T.1 130 30)), (0, .ref (G.2.2 130)), (1, .int a1), (2, .int a2)]) hx hb dX7_works_4 rfl hl (by decide) rfl (fun ls hl => ?_)
  refine lv_iload_n hx hb dX7_works_5 rfl (lv_at hl 2 rfl) ?_
  by_cases hs1 : a1 = 1
  · have hw := hw.1 hs1
    refine lv_tableIn (off := 62) (tgt := 68) hx hb dX7_works_6 (by rw [hs1]; decide) (by rw [hs1]; decide) (by rw [hs1]; rfl) (by decide) ?_
    refine lv_aload_n hx hb dX7_works_68 rfl (lv_at hl 1 rfl) ?_
    refine lv_iload_n hx hb dX7_works_69 rfl (lv_at hl 3 rfl) ?_
    refine lv_i2b hx hb dX7_works_70 rfl ?_
    refine pf_X7_140 C hP hS (fun _ h => h) (o := 130) rfl dX7_works_71 (fun H locs hP hS => ?_)
    refine lv_goto (tgt := 200) hx hb dX7_works_74 (by decide) ?_
    exact sy_vret C hr hlocks hP hS hw dX7_works_200
  · have hw := hw.2 hs1
    by_cases hs2 : a1 = 2
    · have hw := hw.1 hs2
      refine lv_tableIn (off := 71) (tgt := 77) hx hb dX7_works_6 (by rw [hs2]; decide) (by rw [hs2]; decide) (by rw [hs2]; rfl) (by decide) ?_
      refine lv_aload_n hx hb dX7_works_77 rfl (lv_at hl 1 rfl) ?_
      refine lv_dup hx hb dX7_works_78 rfl ?_
      refine gf_X7_140 C hP (o := 130) rfl dX7_works_79 ?_
      refine lv_iload_n hx hb dX7_works_82 rfl (lv_at hl 3 rfl) ?_
      refine lv_i2b hx hb dX7_works_83 rfl ?_
      refine lv_iadd hx hb dX7_works_84 ?_
      refine pf_X7_140 C hP hS (fun _ h => h) (o := 130) rfl dX7_works_85 (fun H locs hP hS => ?_)
      refine lv_goto (tgt := 200) hx hb dX7_works_88 (by decide) ?_
      exact sy_vret C hr hlocks hP hS hw dX7_works_200
    · have hw := hw.2 hs2
      by_cases hs3 : a1 = 3
      · have hw := hw.1 hs3
        refine lv_tableIn (off := 85) (tgt := 91) hx hb dX7_works_6 (by rw [hs3]; decide) (by rw [hs3]; decide) (by rw [hs3]; rfl) (by decide) ?_
        refine lv_aload_n hx hb dX7_works_91 rfl (lv_at hl 1 rfl) ?_
        refine lv_aload_n hx hb dX7_works_92 rfl (lv_at hl 1 rfl) ?_
        refine gf_X7_143 C hP (o := 130) rfl dX7_works_93 ?_
        refine pf_X7_140 C hP hS (fun _ h => h) (o := 130) rfl dX7_works_96 (fun H locs hP hS => ?_)
        refine lv_aload_n hx hb dX7_works_99 rfl (lv_at hl 1 rfl) ?_
        refine lv_iload_n hx hb dX7_works_100 rfl (lv_at hl 0 rfl) ?_
        refine pf_X7_143 C hP hS (fun _ h => h) (o := 130) rfl dX7_works_101 (fun H locs hP hS => ?_)
        refine lv_goto (tgt := 200) hx hb dX7_works_104 (by decide) ?_
        exact sy_vret C hr hlocks hP hS hw dX7_works_200
      · have hw := hw.2 hs3
        by_cases hs4 : a1 = 4
        · have hw := hw.1 hs4
          refine lv_tableIn (off := 101) (tgt := 107) hx hb dX7_works_6 (by rw [hs4]; decide) (by rw [hs4]; decide) (by rw [hs4]; rfl) (by decide) ?_
          refine lv_aload_n hx hb dX7_works_107 rfl (lv_at hl 1 rfl) ?_
          refine lv_aload_n hx hb dX7_works_108 rfl (lv_at hl 1 rfl) ?_
          refine gf_X7_7 C hP (o := 130) rfl dX7_works_109 ?_
          refine lv_iload_n hx hb dX7_works_112 rfl (lv_at hl 3 rfl) ?_
          obtain ⟨hn5, hw⟩ := hw
          refine sy_iald C hP (o := 131) rfl rfl hn5 dX7_works_113 ?_
          refine pf_X7_140 C hP hS (fun _ h => h) (o := 130) rfl dX7_works_114 (fun H locs hP hS => ?_)
          refine lv_goto (tgt := 200) hx hb dX7_works_117 (by decide) ?_
          exact sy_vret C hr hlocks hP hS hw dX7_works_200
        · have hw := hw.2 hs4
          by_cases hs6 : a1 = 5
          · have hw := hw.1 hs6
            refine lv_tableIn (off := 114) (tgt := 120) hx hb dX7_works_6 (by rw [hs6]; decide) (by rw [hs6]; decide) (by rw [hs6]; rfl) (by decide) ?_
            refine lv_aload_n hx hb dX7_works_120 rfl (lv_at hl 1 rfl) ?_
            refine lv_iload_n hx hb dX7_works_121 rfl (lv_at hl 3 rfl) ?_
            refine lv_aload_n hx hb dX7_works_122 rfl (lv_at hl 1 rfl) ?_
            refine gf_X7_140 C hP (o := 130) rfl dX7_works_123 ?_
            refine sy_gov (sy_runV C hP rfl rfl (m_X7_changes l G hi _ _ _ _ hw) mw_X7_changes w_966 ws_38 w_964 (rest := []) rfl hl.1 rfl (Nat.le_of_ble_eq_true rfl) ⟨Nat.le_of_ble_eq_true rfl, Nat.le_of_ble_eq_true rfl⟩ dX7_works_126 ⟨Nat.zero_le _, Nat.zero_le _⟩) hS (fun _ h => h) (fun T7 H locs hw hP hS => ?_)
            refine lv_goto (tgt := 200) hx hb dX7_works_129 (by decide) ?_
            exact sy_vret C hr hlocks hP hS hw dX7_works_200
          · have hw := hw.2 hs6
            by_cases hs9 : a1 = 6
            · have hw := hw.1 hs9
              refine lv_tableIn (off := 194) (tgt := 200) hx hb dX7_works_6 (by rw [hs9]; decide) (by rw [hs9]; decide) (by rw [hs9]; rfl) (by decide) ?_
              exact sy_vret C hr hlocks hP hS hw dX7_works_200
            · have hw := hw.2 hs9
              by_cases hs10 : a1 = 7
              · have hw := hw.1 hs10
                refine lv_tableIn (off := 194) (tgt := 200) hx hb dX7_works_6 (by rw [hs10]; decide) (by rw [hs10]; decide) (by rw [hs10]; rfl) (by decide) ?_
                exact sy_vret C hr hlocks hP hS hw dX7_works_200
              · have hw := hw.2 hs10
                by_cases hs11 : a1 = 8
                · have hw := hw.1 hs11
                  refine lv_tableIn (off := 126) (tgt := 132) hx hb dX7_works_6 (by rw [hs11]; decide) (by rw [hs11]; decide) (by rw [hs11]; rfl) (by decide) ?_
                  refine lv_aload_n hx hb dX7_works_132 rfl (lv_at hl 1 rfl) ?_
                  refine lv_dup hx hb dX7_works_133 rfl ?_
                  refine gf_X7_143 C hP (o := 130) rfl dX7_works_134 ?_
                  refine lv_iconst (v := 1) hx hb dX7_works_137 (by decide) ?_
                  refine lv_isub hx hb dX7_works_138 ?_
                  refine pf_X7_143 C hP hS (fun _ h => h) (o := 130) rfl dX7_works_139 (fun H locs hP hS => ?_)
                  refine lv_goto (tgt := 200) hx hb dX7_works_142 (by decide) ?_
                  exact sy_vret C hr hlocks hP hS hw dX7_works_200
                · have hw := hw.2 hs11
                  by_cases hs12 : a1 = 9
                  · have hw := hw.1 hs12
                    refine lv_tableIn (off := 194) (tgt := 200) hx hb dX7_works_6 (by rw [hs12]; decide) (by rw [hs12]; decide) (by rw [hs12]; rfl) (by decide) ?_
                    exact sy_vret C hr hlocks hP hS hw dX7_works_200
                  · have hw := hw.2 hs12
                    by_cases hs13 : a1 = 10
                    · have hw := hw.1 hs13
                      refine lv_tableIn (off := 139) (tgt := 145) hx hb dX7_works_6 (by rw [hs13]; decide) (by rw [hs13]; decide) (by rw [hs13]; rfl) (by decide) ?_
                      refine lv_aload_n hx hb dX7_works_145 rfl (lv_at hl 1 rfl) ?_
                      refine lv_aload_n hx hb dX7_works_146 rfl (lv_at hl 1 rfl) ?_
                      refine gf_X7_7 C hP (o := 130) rfl dX7_works_147 ?_
                      refine lv_aload_n hx hb dX7_works_150 rfl (lv_at hl 1 rfl) ?_
                      refine gf_X7_143 C hP (o := 130) rfl dX7_works_151 ?_
                      refine lv_sipush (v := 255) hx hb dX7_works_154 (by decide) ?_
                      refine lv_iand hx hb dX7_works_157 ?_
                      obtain ⟨hn14, hw⟩ := hw
                      refine sy_iald C hP (o := 131) rfl rfl hn14 dX7_works_158 ?_
                      refine pf_X7_140 C hP hS (fun _ h => h) (o := 130) rfl dX7_works_159 (fun H locs hP hS => ?_)
                      refine lv_goto (tgt := 200) hx hb dX7_works_162 (by decide) ?_
                      exact sy_vret C hr hlocks hP hS hw dX7_works_200
                    · have hw := hw.2 hs13
                      by_cases hs15 : a1 = 11
                      · have hw := hw.1 hs15
                        refine lv_tableIn (off := 159) (tgt := 165) hx hb dX7_works_6 (by rw [hs15]; decide) (by rw [hs15]; decide) (by rw [hs15]; rfl) (by decide) ?_
                        refine lv_aload_n hx hb dX7_works_165 rfl (lv_at hl 1 rfl) ?_
                        refine lv_aload_n hx hb dX7_works_166 rfl (lv_at hl 1 rfl) ?_
                        refine gf_X7_143 C hP (o := 130) rfl dX7_works_167 ?_
                        refine lv_sipush (v := 255) hx hb dX7_works_170 (by decide) ?_
                        refine lv_iand hx hb dX7_works_173 ?_
                        refine lv_aload_n hx hb dX7_works_174 rfl (lv_at hl 1 rfl) ?_
                        refine gf_X7_140 C hP (o := 130) rfl dX7_works_175 ?_
                        refine sy_gov (sy_runV C hP rfl rfl (m_X7_changes l G hi _ _ _ _ hw) mw_X7_changes w_966 ws_38 w_964 (rest := []) rfl hl.1 rfl (Nat.le_of_ble_eq_true rfl) ⟨Nat.le_of_ble_eq_true rfl, Nat.le_of_ble_eq_true rfl⟩ dX7_works_178 ⟨Nat.zero_le _, Nat.zero_le _⟩) hS (fun _ h => h) (fun T16 H locs hw hP hS => ?_)
                        refine lv_goto (tgt := 200) hx hb dX7_works_181 (by decide) ?_
                        exact sy_vret C hr hlocks hP hS hw dX7_works_200
                      · have hw := hw.2 hs15
                        by_cases hs18 : a1 = 12
                        · have hw := hw.1 hs18
                          refine lv_tableIn (off := 178) (tgt := 184) hx hb dX7_works_6 (by rw [hs18]; decide) (by rw [hs18]; decide) (by rw [hs18]; rfl) (by decide) ?_
                          refine lv_aload_n hx hb dX7_works_184 rfl (lv_at hl 1 rfl) ?_
                          refine lv_aload_n hx hb dX7_works_185 rfl (lv_at hl 1 rfl) ?_
                          refine gf_X7_140 C hP (o := 130) rfl dX7_works_186 ?_
                          refine lv_aload_n hx hb dX7_works_189 rfl (lv_at hl 1 rfl) ?_
                          refine gf_X7_143 C hP (o := 130) rfl dX7_works_190 ?_
                          refine lv_imul hx hb dX7_works_193 ?_
                          refine pf_X7_140 C hP hS (fun _ h => h) (o := 130) rfl dX7_works_194 (fun H locs hP hS => ?_)
                          refine lv_goto (tgt := 200) hx hb dX7_works_197 (by decide) ?_
                          exact sy_vret C hr hlocks hP hS hw dX7_works_200
                        · have hw := hw.2 hs18
                          have ahs1 : (a1).toInt ≠ 1 := ne_toI hs1
                          have ahs2 : (a1).toInt ≠ 2 := ne_toI hs2
                          have ahs3 : (a1).toInt ≠ 3 := ne_toI hs3
                          have ahs4 : (a1).toInt ≠ 4 := ne_toI hs4
                          have ahs6 : (a1).toInt ≠ 5 := ne_toI hs6
                          have ahs9 : (a1).toInt ≠ 6 := ne_toI hs9
                          have ahs10 : (a1).toInt ≠ 7 := ne_toI hs10
                          have ahs11 : (a1).toInt ≠ 8 := ne_toI hs11
                          have ahs12 : (a1).toInt ≠ 9 := ne_toI hs12
                          have ahs13 : (a1).toInt ≠ 10 := ne_toI hs13
                          have ahs15 : (a1).toInt ≠ 11 := ne_toI hs15
                          have ahs18 : (a1).toInt ≠ 12 := ne_toI hs18
                          refine lv_tableOut (tgt := 200) hx hb dX7_works_6 (by omega) (by decide) ?_
                          exact sy_vret C hr hlocks hP hS hw dX7_works_200
theorem mw_X7_calls : MW yX7_calls cX7_calls 3 (some .int) 2 := ⟨w_959, w_8, by decide +kernel⟩
def wp_X7_calls (a1 : Int32) (a2 : Int32) (T : St) (post : Int32 → St → Prop) : Prop :=
  (T.1 130 34 = 6 → (¬ T.1 130 34 = 6 → post 2 T) ∧ (T.1 130 34 = 6 → post 3 T)) ∧ (¬ T.1 130 34 = 6 → (a1 < T.1 130 2 → vp_in (T.1 130 34) 6 ∧ (vp_in ((sv T 150 ((T.1 130 34).toNatClampNeg) a2).1 130 34) 6 ∧ (∀ T6 : St, T6 = sv (sv T 150 ((T.1 130 34).toNatClampNeg) a2) 149 (((sv T 150 ((T.1 130 34).toNatClampNeg) a2).1 130 34).toNatClampNeg) ((sv T 150 ((T.1 130 34).toNatClampNeg) a2).1 130 33) → (((sv T6 130 34 ((T6.1 130 34) + 1)).1 130 34 ≤ (sv T6 130 34 ((T6.1 130 34) + 1)).1 130 39 → vp_in a1 10 ∧ (∀ T9 : St, T9 = sv (sv (sv (sv T6 130 34 ((T6.1 130 34) + 1)) 130 39 ((sv T6 130 34 ((T6.1 130 34) + 1)).1 130 39)) 130 33 a1) 130 32 ((sv (sv (sv T6 130 34 ((T6.1 130 34) + 1)) 130 39 ((sv T6 130 34 ((T6.1 130 34) + 1)).1 130 39)) 130 33 a1).1 132 a1.toNatClampNeg) → (post 0 T9))) ∧ (¬ (sv T6 130 34 ((T6.1 130 34) + 1)).1 130 34 ≤ (sv T6 130 34 ((T6.1 130 34) + 1)).1 130 39 → vp_in a1 10 ∧ (∀ T11 : St, T11 = sv (sv (sv (sv T6 130 34 ((T6.1 130 34) + 1)) 130 39 ((sv T6 130 34 ((T6.1 130 34) + 1)).1 130 34)) 130 33 a1) 130 32 ((sv (sv (sv T6 130 34 ((T6.1 130 34) + 1)) 130 39 ((sv T6 130 34 ((T6.1 130 34) + 1)).1 130 34)) 130 33 a1).1 132 a1.toNatClampNeg) → (post 0 T11))))))) ∧ (¬ a1 < T.1 130 2 → (¬ T.1 130 34 = 6 → post 2 T) ∧ (T.1 130 34 = 6 → post 3 T)))
set_option maxHeartbeats 4000000 in
set_option maxRecDepth 100000 in
theorem m_X7_calls (l : Launch) (G : Gm) (hi : Inj G) (a1 : Int32) (a2 : Int32)  (T : St) (post : Int32 → St → Prop) (hw : wp_X7_calls a1 a2 T post) : Mi l yX7_calls cX7_calls 3 (some .int) 0 0 G [.ref (G.2.2 130), .int a1, .int a2] T post := by
  refine sy_head hi (by decide) (Nat.le_of_ble_eq_true rfl) (lv := [(0, .ref (G.2.2 130)), (1, .int a1), (2, .int a2)]) rfl ?_
  intro p e s m below meth c C hr hlocks hP hS ls hl
  have C : Cx p s m _ c cX7_calls 3 RX7 G := C
  obtain ⟨hx, hb, hml, hown, hg, hK, hN, -⟩ := id C
  unfold wp_X7_calls at hw
  refine lv_aload_n hx hb dX7_calls_0 rfl (lv_at hl 0 rfl) ?_
  refine gf_X7_150 C hP (o := 130) rfl dX7_calls_1 ?_
  refine lv_bipush (v := 6) hx hb dX7_calls_4 (by decide) ?_
  refine lv_icmp_eq (tgt := 17) hx hb dX7_calls_6 (by decide) (fun hc1 => ?_) (fun hc1 => ?_)
  · have hw := hw.1 hc1
    refine lv_aload_n hx hb dX7_calls_17 rfl (lv_at hl 0 rfl) ?_
    refine gf_X7_150 C hP (o := 130) rfl dX7_calls_18 ?_
    refine lv_bipush (v := 6) hx hb dX7_calls_21 (by decide) ?_
    refine lv_icmp_ne (tgt := 30) hx hb dX7_calls_23 (by decide) (fun hc2 => ?_) (fun hc2 => ?_)
    · have hw := hw.1 hc2
      refine lv_iconst (v := 2) hx hb dX7_calls_30 (by decide) ?_
      exact sy_iret C hr hlocks hP hS hw dX7_calls_31
    · have hw := hw.2 hc2
      refine lv_iconst (v := 3) hx hb dX7_calls_26 (by decide) ?_
      refine lv_goto (tgt := 31) hx hb dX7_calls_27 (by decide) ?_
      exact sy_iret C hr hlocks hP hS hw dX7_calls_31
  · have hw := hw.2 hc1
    refine lv_iload_n hx hb dX7_calls_9 rfl (lv_at hl 1 rfl) ?_
    refine lv_aload_n hx hb dX7_calls_10 rfl (lv_at hl 0 rfl) ?_
    refine gf_X7_75 C hP (o := 130) rfl dX7_calls_11 ?_
    refine lv_icmp_lt (tgt := 32) hx hb dX7_calls_14 (by decide) (fun hc3 => ?_) (fun hc3 => ?_)
    · have hw := hw.1 hc3
      refine lv_aload_n hx hb dX7_calls_32 rfl (lv_at hl 0 rfl) ?_
      refine gf_X7_68 C hP (o := 130) rfl dX7_calls_33 ?_
      refine lv_aload_n hx hb dX7_calls_36 rfl (lv_at hl 0 rfl) ?_
      refine gf_X7_150 C hP (o := 130) rfl dX7_calls_37 ?_
      refine lv_iload_n hx hb dX7_calls_40 rfl (lv_at hl 2 rfl) ?_
      obtain ⟨hn4, hw⟩ := hw
      refine sy_iast C hP hS (fun _ h => h) (o := 150) rfl rfl hn4 dX7_calls_41 (fun H locs hP hS => ?_)
      refine lv_aload_n hx hb dX7_calls_42 rfl (lv_at hl 0 rfl) ?_
      refine gf_X7_65 C hP (o := 130) rfl dX7_calls_43 ?_
      refine lv_aload_n hx hb dX7_calls_46 rfl (lv_at hl 0 rfl) ?_
      refine gf_X7_150 C hP (o := 130) rfl dX7_calls_47 ?_
      refine lv_aload_n hx hb dX7_calls_50 rfl (lv_at hl 0 rfl) ?_
      refine gf_X7_153 C hP (o := 130) rfl dX7_calls_51 ?_
      obtain ⟨hn5, hw⟩ := hw
      refine sy_iast C hP hS (fun _ h => h) (o := 149) rfl rfl hn5 dX7_calls_54 (fun H locs hP hS => ?_)
      obtain ⟨T6, eT6, hP⟩ := nameT (P := fun T => va_P G.1 sc_cl (wd G T) H) hP
      have hw := hw T6 eT6
      refine lv_aload_n hx hb dX7_calls_55 rfl (lv_at hl 0 rfl) ?_
      refine lv_dup hx hb dX7_calls_56 rfl ?_
      refine gf_X7_150 C hP (o := 130) rfl dX7_calls_57 ?_
      refine lv_iconst (v := 1) hx hb dX7_calls_60 (by decide) ?_
      refine lv_iadd hx hb dX7_calls_61 ?_
      refine pf_X7_150 C hP hS (fun _ h => h) (o := 130) rfl dX7_calls_62 (fun H locs hP hS => ?_)
      refine lv_aload_n hx hb dX7_calls_65 rfl (lv_at hl 0 rfl) ?_
      refine lv_aload_n hx hb dX7_calls_66 rfl (lv_at hl 0 rfl) ?_
      refine gf_X7_150 C hP (o := 130) rfl dX7_calls_67 ?_
      refine lv_aload_n hx hb dX7_calls_70 rfl (lv_at hl 0 rfl) ?_
      refine gf_X7_156 C hP (o := 130) rfl dX7_calls_71 ?_
      refine lv_icmp_le (tgt := 84) hx hb dX7_calls_74 (by decide) (fun hc7 => ?_) (fun hc7 => ?_)
      · have hw := hw.1 hc7
        refine lv_aload_n hx hb dX7_calls_84 rfl (lv_at hl 0 rfl) ?_
        refine gf_X7_156 C hP (o := 130) rfl dX7_calls_85 ?_
        refine pf_X7_156 C hP hS (fun _ h => h) (o := 130) rfl dX7_calls_88 (fun H locs hP hS => ?_)
        refine lv_aload_n hx hb dX7_calls_91 rfl (lv_at hl 0 rfl) ?_
        refine lv_iload_n hx hb dX7_calls_92 rfl (lv_at hl 1 rfl) ?_
        refine pf_X7_153 C hP hS (fun _ h => h) (o := 130) rfl dX7_calls_93 (fun H locs hP hS => ?_)
        refine lv_aload_n hx hb dX7_calls_96 rfl (lv_at hl 0 rfl) ?_
        refine lv_aload_n hx hb dX7_calls_97 rfl (lv_at hl 0 rfl) ?_
        refine gf_X7_13 C hP (o := 130) rfl dX7_calls_98 ?_
        refine lv_iload_n hx hb dX7_calls_101 rfl (lv_at hl 1 rfl) ?_
        obtain ⟨hn8, hw⟩ := hw
        refine sy_iald C hP (o := 132) rfl rfl hn8 dX7_calls_102 ?_
        refine pf_X7_159 C hP hS (fun _ h => h) (o := 130) rfl dX7_calls_103 (fun H locs hP hS => ?_)
        obtain ⟨T9, eT9, hP⟩ := nameT (P := fun T => va_P G.1 sc_cl (wd G T) H) hP
        have hw := hw T9 eT9
        refine lv_iconst (v := 0) hx hb dX7_calls_106 (by decide) ?_
        exact sy_iret C hr hlocks hP hS hw dX7_calls_107
      · have hw := hw.2 hc7
        refine lv_aload_n hx hb dX7_calls_77 rfl (lv_at hl 0 rfl) ?_
        refine gf_X7_150 C hP (o := 130) rfl dX7_calls_78 ?_
        refine lv_goto (tgt := 88) hx hb dX7_calls_81 (by decide) ?_
        refine pf_X7_156 C hP hS (fun _ h => h) (o := 130) rfl dX7_calls_88 (fun H locs hP hS => ?_)
        refine lv_aload_n hx hb dX7_calls_91 rfl (lv_at hl 0 rfl) ?_
        refine lv_iload_n hx hb dX7_calls_92 rfl (lv_at hl 1 rfl) ?_
        refine pf_X7_153 C hP hS (fun _ h => h) (o := 130) rfl dX7_calls_93 (fun H locs hP hS => ?_)
        refine lv_aload_n hx hb dX7_calls_96 rfl (lv_at hl 0 rfl) ?_
        refine lv_aload_n hx hb dX7_calls_97 rfl (lv_at hl 0 rfl) ?_
        refine gf_X7_13 C hP (o := 130) rfl dX7_calls_98 ?_
        refine lv_iload_n hx hb dX7_calls_101 rfl (lv_at hl 1 rfl) ?_
        obtain ⟨hn10, hw⟩ := hw
        refine sy_iald C hP (o := 132) rfl rfl hn10 dX7_calls_102 ?_
        refine pf_X7_159 C hP hS (fun _ h => h) (o := 130) rfl dX7_calls_103 (fun H locs hP hS => ?_)
        obtain ⟨T11, eT11, hP⟩ := nameT (P := fun T => va_P G.1 sc_cl (wd G T) H) hP
        have hw := hw T11 eT11
        refine lv_iconst (v := 0) hx hb dX7_calls_106 (by decide) ?_
        exact sy_iret C hr hlocks hP hS hw dX7_calls_107
    · have hw := hw.2 hc3
      refine lv_aload_n hx hb dX7_calls_17 rfl (lv_at hl 0 rfl) ?_
      refine gf_X7_150 C hP (o := 130) rfl dX7_calls_18 ?_
      refine lv_bipush (v := 6) hx hb dX7_calls_21 (by decide) ?_
      refine lv_icmp_ne (tgt := 30) hx hb dX7_calls_23 (by decide) (fun hc12 => ?_) (fun hc12 => ?_)
      · have hw := hw.1 hc12
        refine lv_iconst (v := 2) hx hb dX7_calls_30 (by decide) ?_
        exact sy_iret C hr hlocks hP hS hw dX7_calls_31
      · have hw := hw.2 hc12
        refine lv_iconst (v := 3) hx hb dX7_calls_26 (by decide) ?_
        refine lv_goto (tgt := 31) hx hb dX7_calls_27 (by decide) ?_
        exact sy_iret C hr hlocks hP hS hw dX7_calls_31
theorem mw_X7_act : MW yX7_act cX7_act 6 (some .int) 1 := ⟨w_955, w_8, by decide +kernel⟩
def wj_X7_act_213   (j2_24 : Int32) (j4_25 : Int32) (j5_26 : Int32) (T27 : St) (post : Int32 → St → Prop) : Prop :=
  (¬ j2_24 = 8 → post 0 (sv T27 130 32 j4_25)) ∧ (j2_24 = 8 → (T27.1 130 31 = 0 → post 0 (sv T27 130 32 j4_25)) ∧ (¬ T27.1 130 31 = 0 → post 0 (sv T27 130 32 j5_26)))
def wj_X7_act_81   (j2_9 : Int32) (s10 : Int32) (s11 : Int32) (T12 : St) (post : Int32 → St → Prop) : Prop :=
  vp_in ((((sv T12 130 36 (s11 + s10)).1 130 32) + 1) &&& 255) 256 ∧ (wp_X7_behind ((sv T12 130 36 (s11 + s10)).1 130 32) (sv T12 130 36 (s11 + s10)) (fun r15 T14 => wp_X7_other (T14.1 130 32) T14 (fun r17 T16 => (¬ j2_9 = 9 → (¬ j2_9 = 0 → wp_X7_works j2_9 ((sv T12 130 36 (s11 + s10)).1 131 ((((sv T12 130 36 (s11 + s10)).1 130 32) + 1) &&& 255).toNatClampNeg) T16 (fun T20 => (j2_9 = 6 → post 0 (sv T20 130 32 r17)) ∧ (¬ j2_9 = 6 → (¬ j2_9 = 7 → wj_X7_act_213 j2_9 r15 r17 T20 post) ∧ (j2_9 = 7 → (T20.1 130 30 = 0 → post 0 (sv T20 130 32 r17)) ∧ (¬ T20.1 130 30 = 0 → wj_X7_act_213 j2_9 r15 r17 T20 post))))) ∧ (j2_9 = 0 → (¬ T16.1 130 34 = 1 → vp_in ((sv T16 130 34 ((T16.1 130 34) - 1)).1 130 34) 6 ∧ (∀ T34 : St, T34 = sv (sv T16 130 34 ((T16.1 130 34) - 1)) 130 32 ((sv T16 130 34 ((T16.1 130 34) - 1)).1 150 ((sv T16 130 34 ((T16.1 130 34) - 1)).1 130 34).toNatClampNeg) → (vp_in (T34.1 130 34) 6 ∧ (post 0 (sv T34 130 33 (T34.1 149 (T34.1 130 34).toNatClampNeg)))))) ∧ (T16.1 130 34 = 1 → post 5 T16))) ∧ (j2_9 = 9 → wp_X7_calls ((sv T12 130 36 (s11 + s10)).1 131 ((((sv T12 130 36 (s11 + s10)).1 130 32) + 1) &&& 255).toNatClampNeg) r15 T16 (fun r37 T36 => post r37 T36)))))
def wj_X7_act_80   (j2_6 : Int32) (s7 : Int32) (T8 : St) (post : Int32 → St → Prop) : Prop :=
  wj_X7_act_81 j2_6 0 s7 T8 post
def wp_X7_act (a1 : Int32) (T : St) (post : Int32 → St → Prop) : Prop :=
  (¬ T.1 130 35 = a1 → vp_in (T.1 130 32) 256 ∧ ((T.1 131 (T.1 130 32).toNatClampNeg ≤ 12 → vp_in ((sv T 130 35 ((T.1 130 35) + 1)).1 130 33) 10 ∧ (((sv T 130 35 ((T.1 130 35) + 1)).1 133 ((sv T 130 35 ((T.1 130 35) + 1)).1 130 33).toNatClampNeg = 0 → wj_X7_act_80 (T.1 131 (T.1 130 32).toNatClampNeg) ((sv T 130 35 ((T.1 130 35) + 1)).1 130 36) (sv T 130 35 ((T.1 130 35) + 1)) post) ∧ (¬ (sv T 130 35 ((T.1 130 35) + 1)).1 133 ((sv T 130 35 ((T.1 130 35) + 1)).1 130 33).toNatClampNeg = 0 → vp_in ((256 * ((sv T 130 35 ((T.1 130 35) + 1)).1 130 33)) + ((sv T 130 35 ((T.1 130 35) + 1)).1 130 32)) 2560 ∧ (((sv T 130 35 ((T.1 130 35) + 1)).1 134 ((256 * ((sv T 130 35 ((T.1 130 35) + 1)).1 130 33)) + ((sv T 130 35 ((T.1 130 35) + 1)).1 130 32)).toNatClampNeg = 0 → wj_X7_act_80 (T.1 131 (T.1 130 32).toNatClampNeg) ((sv T 130 35 ((T.1 130 35) + 1)).1 130 36) (sv T 130 35 ((T.1 130 35) + 1)) post) ∧ (¬ (sv T 130 35 ((T.1 130 35) + 1)).1 134 ((256 * ((sv T 130 35 ((T.1 130 35) + 1)).1 130 33)) + ((sv T 130 35 ((T.1 130 35) + 1)).1 130 32)).toNatClampNeg = 0 → wj_X7_act_81 (T.1 131 (T.1 130 32).toNatClampNeg) 1 ((sv T 130 35 ((T.1 130 35) + 1)).1 130 36) (sv T 130 35 ((T.1 130 35) + 1)) post))))) ∧ (¬ T.1 131 (T.1 130 32).toNatClampNeg ≤ 12 → post 1 T))) ∧ (T.1 130 35 = a1 → post 4 T)
set_option maxHeartbeats 4000000 in
set_option maxRecDepth 100000 in
theorem m_X7_act (l : Launch) (G : Gm) (hi : Inj G) (a1 : Int32)  (T : St) (post : Int32 → St → Prop) (hw : wp_X7_act a1 T post) : Mi l yX7_act cX7_act 6 (some .int) 4 94 G [.ref (G.2.2 130), .int a1] T post := by
  refine sy_head hi (by decide) (Nat.le_of_ble_eq_true rfl) (lv := [(0, .ref (G.2.2 130)), (1, .int a1)]) rfl ?_
  intro p e s m below meth c C hr hlocks hP hS ls hl
  have C : Cx p s m _ c cX7_act 6 RX7 G := C
  obtain ⟨hx, hb, hml, hown, hg, hK, hN, -⟩ := id C
  unfold wp_X7_act at hw
  have J30 : ∀ (j2_24 : Int32) (j4_25 : Int32) (j5_26 : Int32) (T27 : St), wj_X7_act_213   j2_24 j4_25 j5_26 T27 post → ∀ (H : Heap) (locs : List Loc), va_P G.1 sc_cl (wd G T27) H → va_S (SA G) s.heap H locs → ∀ ls : Array Slot, lv_has ls 6 [(0, .ref (G.2.2 130)), (2, .int j2_24), (4, .int j4_25), (5, .int j5_26)] → W p l e { frames := 4, cells := 0, slots := 0, locals := 94 } s m ([.ref (G.2.2 130), .int a1] : List Value).toArray below meth c H locs 0 0 (MQ below (va_Qi post (Sy G) (SA G)) ([.ref (G.2.2 130), .int a1] : List Value).toArray s 0 0 (SA G)) (F0 m 213 ls [.ref (G.2.2 130)]) := by
    intro j2_24 j4_25 j5_26 T27  hw H locs hP hS ls hl
    unfold wj_X7_act_213 at hw
    refine lv_iload_n hx hb dX7_act_213 rfl (lv_at hl 1 rfl) ?_
    refine lv_bipush (v := 8) hx hb dX7_act_214 (by decide) ?_
    refine lv_icmp_ne (tgt := 231) hx hb dX7_act_216 (by decide) (fun hc28 => ?_) (fun hc28 => ?_)
    · have hw := hw.1 hc28
      refine lv_iload hx hb dX7_act_231 (lv_at hl 2 rfl) ?_
      refine pf_X7_159 C hP hS (fun _ h => h) (o := 130) rfl dX7_act_233 (fun H locs hP hS => ?_)
      refine lv_iconst (v := 0) hx hb dX7_act_236 (by decide) ?_
      exact sy_iret C hr hlocks hP hS hw dX7_act_237
    · have hw := hw.2 hc28
      refine lv_aload_n hx hb dX7_act_219 rfl (lv_at hl 0 rfl) ?_
      refine gf_X7_143 C hP (o := 130) rfl dX7_act_220 ?_
      refine lv_if_eq (tgt := 231) hx hb dX7_act_223 (by decide) (fun hc29 => ?_) (fun hc29 => ?_)
      · have hw := hw.1 hc29
        refine lv_iload hx hb dX7_act_231 (lv_at hl 2 rfl) ?_
        refine pf_X7_159 C hP hS (fun _ h => h) (o := 130) rfl dX7_act_233 (fun H locs hP hS => ?_)
        refine lv_iconst (v := 0) hx hb dX7_act_236 (by decide) ?_
        exact sy_iret C hr hlocks hP hS hw dX7_act_237
      · have hw := hw.2 hc29
        refine lv_iload hx hb dX7_act_226 (lv_at hl 3 rfl) ?_
        refine lv_goto (tgt := 233) hx hb dX7_act_228 (by decide) ?_
        refine pf_X7_159 C hP hS (fun _ h => h) (o := 130) rfl dX7_act_233 (fun H locs hP hS => ?_)
        refine lv_iconst (v := 0) hx hb dX7_act_236 (by decide) ?_
        exact sy_iret C hr hlocks hP hS hw dX7_act_237
  have J38 : ∀ (j2_9 : Int32) (s10 : Int32) (s11 : Int32) (T12 : St), wj_X7_act_81   j2_9 s10 s11 T12 post → ∀ (H : Heap) (locs : List Loc), va_P G.1 sc_cl (wd G T12) H → va_S (SA G) s.heap H locs → ∀ ls : Array Slot, lv_has ls 6 [(0, .ref (G.2.2 130)), (2, .int j2_9)] → W p l e { frames := 4, cells := 0, slots := 0, locals := 94 } s m ([.ref (G.2.2 130), .int a1] : List Value).toArray below meth c H locs 0 0 (MQ below (va_Qi post (Sy G) (SA G)) ([.ref (G.2.2 130), .int a1] : List Value).toArray s 0 0 (SA G)) (F0 m 81 ls [.int s10, .int s11, .ref (G.2.2 130)]) := by
    intro j2_9 s10 s11 T12  hw H locs hP hS ls hl
    unfold wj_X7_act_81 at hw
    refine lv_iadd hx hb dX7_act_81 ?_
    refine pf_X7_165 C hP hS (fun _ h => h) (o := 130) rfl dX7_act_82 (fun H locs hP hS => ?_)
    refine lv_aload_n hx hb dX7_act_85 rfl (lv_at hl 0 rfl) ?_
    refine gf_X7_7 C hP (o := 130) rfl dX7_act_86 ?_
    refine lv_aload_n hx hb dX7_act_89 rfl (lv_at hl 0 rfl) ?_
    refine gf_X7_159 C hP (o := 130) rfl dX7_act_90 ?_
    refine lv_iconst (v := 1) hx hb dX7_act_93 (by decide) ?_
    refine lv_iadd hx hb dX7_act_94 ?_
    refine lv_sipush (v := 255) hx hb dX7_act_95 (by decide) ?_
    refine lv_iand hx hb dX7_act_98 ?_
    obtain ⟨hn13, hw⟩ := hw
    refine sy_iald C hP (o := 131) rfl rfl hn13 dX7_act_99 ?_
    refine lv_istore_n (lv' := [(3, .int ((sv T12 130 36 (s11 + s10)).1 131 ((((sv T12 130 36 (s11 + s10)).1 130 32) + 1) &&& 255).toNatClampNeg)), (0, .ref (G.2.2 130)), (2, .int j2_9)]) hx hb dX7_act_100 rfl hl (by decide) rfl (fun ls hl => ?_)
    refine lv_aload_n hx hb dX7_act_101 rfl (lv_at hl 1 rfl) ?_
    refine lv_aload_n hx hb dX7_act_102 rfl (lv_at hl 1 rfl) ?_
    refine gf_X7_159 C hP (o := 130) rfl dX7_act_103 ?_
    refine sy_goi (sy_runV C hP rfl rfl (m_X7_behind l G hi _ _ _ hw) mw_X7_behind w_922 ws_31 w_920 (rest := []) rfl hl.1 rfl (Nat.le_of_ble_eq_true rfl) ⟨Nat.le_of_ble_eq_true rfl, Nat.le_of_ble_eq_true rfl⟩ dX7_act_106 ⟨Nat.zero_le _, Nat.zero_le _⟩) hS (fun _ h => h) (fun r15 T14 H locs hw hP hS => ?_)
    refine lv_istore (lv' := [(4, .int r15), (3, .int ((sv T12 130 36 (s11 + s10)).1 131 ((((sv T12 130 36 (s11 + s10)).1 130 32) + 1) &&& 255).toNatClampNeg)), (0, .ref (G.2.2 130)), (2, .int j2_9)]) hx hb dX7_act_109 hl (by decide) rfl (fun ls hl => ?_)
    refine lv_aload_n hx hb dX7_act_111 rfl (lv_at hl 2 rfl) ?_
    refine lv_aload_n hx hb dX7_act_112 rfl (lv_at hl 2 rfl) ?_
    refine gf_X7_159 C hP (o := 130) rfl dX7_act_113 ?_
    refine sy_goi (sy_runV C hP rfl rfl (m_X7_other l G hi _ _ _ hw) mw_X7_other w_926 ws_32 w_924 (rest := []) rfl hl.1 rfl (Nat.le_of_ble_eq_true rfl) ⟨Nat.le_of_ble_eq_true rfl, Nat.le_of_ble_eq_true rfl⟩ dX7_act_116 ⟨Nat.zero_le _, Nat.zero_le _⟩) hS (fun _ h => h) (fun r17 T16 H locs hw hP hS => ?_)
    refine lv_istore (lv' := [(5, .int r17), (4, .int r15), (3, .int ((sv T12 130 36 (s11 + s10)).1 131 ((((sv T12 130 36 (s11 + s10)).1 130 32) + 1) &&& 255).toNatClampNeg)), (0, .ref (G.2.2 130)), (2, .int j2_9)]) hx hb dX7_act_119 hl (by decide) rfl (fun ls hl => ?_)
    refine lv_iload_n hx hb dX7_act_121 rfl (lv_at hl 4 rfl) ?_
    refine lv_bipush (v := 9) hx hb dX7_act_122 (by decide) ?_
    refine lv_icmp_ne (tgt := 135) hx hb dX7_act_124 (by decide) (fun hc18 => ?_) (fun hc18 => ?_)
    · have hw := hw.1 hc18
      refine lv_iload_n hx hb dX7_act_135 rfl (lv_at hl 4 rfl) ?_
      refine lv_if_ne (tgt := 187) hx hb dX7_act_136 (by decide) (fun hc19 => ?_) (fun hc19 => ?_)
      · have hw := hw.1 hc19
        refine lv_aload_n hx hb dX7_act_187 rfl (lv_at hl 3 rfl) ?_
        refine lv_iload_n hx hb dX7_act_188 rfl (lv_at hl 4 rfl) ?_
        refine lv_iload_n hx hb dX7_act_189 rfl (lv_at hl 2 rfl) ?_
        refine sy_gov (sy_runV C hP rfl rfl (m_X7_works l G hi _ _ _ _ hw) mw_X7_works w_962 ws_37 w_960 (rest := []) rfl hl.1 rfl (Nat.le_of_ble_eq_true rfl) ⟨Nat.le_of_ble_eq_true rfl, Nat.le_of_ble_eq_true rfl⟩ dX7_act_190 ⟨Nat.zero_le _, Nat.zero_le _⟩) hS (fun _ h => h) (fun T20 H locs hw hP hS => ?_)
        refine lv_aload_n hx hb dX7_act_193 rfl (lv_at hl 3 rfl) ?_
        refine lv_iload_n hx hb dX7_act_194 rfl (lv_at hl 4 rfl) ?_
        refine lv_bipush (v := 6) hx hb dX7_act_195 (by decide) ?_
        refine lv_icmp_eq (tgt := 226) hx hb dX7_act_197 (by decide) (fun hc22 => ?_) (fun hc22 => ?_)
        · have hw := hw.1 hc22
          refine lv_iload hx hb dX7_act_226 (lv_at hl 0 rfl) ?_
          refine lv_goto (tgt := 233) hx hb dX7_act_228 (by decide) ?_
          refine pf_X7_159 C hP hS (fun _ h => h) (o := 130) rfl dX7_act_233 (fun H locs hP hS => ?_)
          refine lv_iconst (v := 0) hx hb dX7_act_236 (by decide) ?_
          exact sy_iret C hr hlocks hP hS hw dX7_act_237
        · have hw := hw.2 hc22
          refine lv_iload_n hx hb dX7_act_200 rfl (lv_at hl 4 rfl) ?_
          refine lv_bipush (v := 7) hx hb dX7_act_201 (by decide) ?_
          refine lv_icmp_ne (tgt := 213) hx hb dX7_act_203 (by decide) (fun hc23 => ?_) (fun hc23 => ?_)
          · have hw := hw.1 hc23
            exact J30 _ _ _ _  hw _ _ hP hS ls (lv_sub hl [3, 4, 1, 0] rfl)
          · have hw := hw.2 hc23
            refine lv_aload_n hx hb dX7_act_206 rfl (lv_at hl 3 rfl) ?_
            refine gf_X7_140 C hP (o := 130) rfl dX7_act_207 ?_
            refine lv_if_eq (tgt := 226) hx hb dX7_act_210 (by decide) (fun hc31 => ?_) (fun hc31 => ?_)
            · have hw := hw.1 hc31
              refine lv_iload hx hb dX7_act_226 (lv_at hl 0 rfl) ?_
              refine lv_goto (tgt := 233) hx hb dX7_act_228 (by decide) ?_
              refine pf_X7_159 C hP hS (fun _ h => h) (o := 130) rfl dX7_act_233 (fun H locs hP hS => ?_)
              refine lv_iconst (v := 0) hx hb dX7_act_236 (by decide) ?_
              exact sy_iret C hr hlocks hP hS hw dX7_act_237
            · have hw := hw.2 hc31
              exact J30 _ _ _ _  hw _ _ hP hS ls (lv_sub hl [3, 4, 1, 0] rfl)
      · have hw := hw.2 hc19
        refine lv_aload_n hx hb dX7_act_139 rfl (lv_at hl 3 rfl) ?_
        refine gf_X7_150 C hP (o := 130) rfl dX7_act_140 ?_
        refine lv_iconst (v := 1) hx hb dX7_act_143 (by decide) ?_
        refine lv_icmp_ne (tgt := 149) hx hb dX7_act_144 (by decide) (fun hc32 => ?_) (fun hc32 => ?_)
        · have hw := hw.1 hc32
          refine lv_aload_n hx hb dX7_act_149 rfl (lv_at hl 3 rfl) ?_
          refine lv_dup hx hb dX7_act_150 rfl ?_
          refine gf_X7_150 C hP (o := 130) rfl dX7_act_151 ?_
          refine lv_iconst (v := 1) hx hb dX7_act_154 (by decide) ?_
          refine lv_isub hx hb dX7_act_155 ?_
          refine pf_X7_150 C hP hS (fun _ h => h) (o := 130) rfl dX7_act_156 (fun H locs hP hS => ?_)
          refine lv_aload_n hx hb dX7_act_159 rfl (lv_at hl 3 rfl) ?_
          refine lv_aload_n hx hb dX7_act_160 rfl (lv_at hl 3 rfl) ?_
          refine gf_X7_68 C hP (o := 130) rfl dX7_act_161 ?_
          refine lv_aload_n hx hb dX7_act_164 rfl (lv_at hl 3 rfl) ?_
          refine gf_X7_150 C hP (o := 130) rfl dX7_act_165 ?_
          obtain ⟨hn33, hw⟩ := hw
          refine sy_iald C hP (o := 150) rfl rfl hn33 dX7_act_168 ?_
          refine pf_X7_159 C hP hS (fun _ h => h) (o := 130) rfl dX7_act_169 (fun H locs hP hS => ?_)
          obtain ⟨T34, eT34, hP⟩ := nameT (P := fun T => va_P G.1 sc_cl (wd G T) H) hP
          have hw := hw T34 eT34
          refine lv_aload_n hx hb dX7_act_172 rfl (lv_at hl 3 rfl) ?_
          refine lv_aload_n hx hb dX7_act_173 rfl (lv_at hl 3 rfl) ?_
          refine gf_X7_65 C hP (o := 130) rfl dX7_act_174 ?_
          refine lv_aload_n hx hb dX7_act_177 rfl (lv_at hl 3 rfl) ?_
          refine gf_X7_150 C hP (o := 130) rfl dX7_act_178 ?_
          obtain ⟨hn35, hw⟩ := hw
          refine sy_iald C hP (o := 149) rfl rfl hn35 dX7_act_181 ?_
          refine pf_X7_153 C hP hS (fun _ h => h) (o := 130) rfl dX7_act_182 (fun H locs hP hS => ?_)
          refine lv_iconst (v := 0) hx hb dX7_act_185 (by decide) ?_
          exact sy_iret C hr hlocks hP hS hw dX7_act_186
        · have hw := hw.2 hc32
          refine lv_iconst (v := 5) hx hb dX7_act_147 (by decide) ?_
          exact sy_iret C hr hlocks hP hS hw dX7_act_148
    · have hw := hw.2 hc18
      refine lv_aload_n hx hb dX7_act_127 rfl (lv_at hl 3 rfl) ?_
      refine lv_iload_n hx hb dX7_act_128 rfl (lv_at hl 2 rfl) ?_
      refine lv_iload hx hb dX7_act_129 (lv_at hl 1 rfl) ?_
      refine sy_goi (sy_runV C hP rfl rfl (m_X7_calls l G hi _ _ _ _ hw) mw_X7_calls w_958 ws_36 w_956 (rest := []) rfl hl.1 rfl (Nat.le_of_ble_eq_true rfl) ⟨Nat.le_of_ble_eq_true rfl, Nat.le_of_ble_eq_true rfl⟩ dX7_act_131 ⟨Nat.zero_le _, Nat.zero_le _⟩) hS (fun _ h => h) (fun r37 T36 H locs hw hP hS => ?_)
      exact sy_iret C hr hlocks hP hS hw dX7_act_134
  have J39 : ∀ (j2_6 : Int32) (s7 : Int32) (T8 : St), wj_X7_act_80   j2_6 s7 T8 post → ∀ (H : Heap) (locs : List Loc), va_P G.1 sc_cl (wd G T8) H → va_S (SA G) s.heap H locs → ∀ ls : Array Slot, lv_has ls 6 [(0, .ref (G.2.2 130)), (2, .int j2_6)] → W p l e { frames := 4, cells := 0, slots := 0, locals := 94 } s m ([.ref (G.2.2 130), .int a1] : List Value).toArray below meth c H locs 0 0 (MQ below (va_Qi post (Sy G) (SA G)) ([.ref (G.2.2 130), .int a1] : List Value).toArray s 0 0 (SA G)) (F0 m 80 ls [.int s7, .ref (G.2.2 130)]) := by
    intro j2_6 s7 T8  hw H locs hP hS ls hl
    unfold wj_X7_act_80 at hw
    refine lv_iconst (v := 0) hx hb dX7_act_80 (by decide) ?_
    exact J38 _ _ _ _  hw _ _ hP hS ls (lv_sub hl [0, 1] rfl)
  refine lv_aload_n hx hb dX7_act_0 rfl (lv_at hl 0 rfl) ?_
  refine gf_X7_162 C hP (o := 130) rfl dX7_act_1 ?_
  refine lv_iload_n hx hb dX7_act_4 rfl (lv_at hl 1 rfl) ?_
  refine lv_icmp_ne (tgt := 10) hx hb dX7_act_5 (by decide) (fun hc1 => ?_) (fun hc1 => ?_)
  · have hw := hw.1 hc1
    refine lv_aload_n hx hb dX7_act_10 rfl (lv_at hl 0 rfl) ?_
    refine gf_X7_7 C hP (o := 130) rfl dX7_act_11 ?_
    refine lv_aload_n hx hb dX7_act_14 rfl (lv_at hl 0 rfl) ?_
    refine gf_X7_159 C hP (o := 130) rfl dX7_act_15 ?_
    obtain ⟨hn2, hw⟩ := hw
    refine sy_iald C hP (o := 131) rfl rfl hn2 dX7_act_18 ?_
    refine lv_istore_n (lv' := [(2, .int (T.1 131 (T.1 130 32).toNatClampNeg)), (0, .ref (G.2.2 130)), (1, .int a1)]) hx hb dX7_act_19 rfl hl (by decide) rfl (fun ls hl => ?_)
    refine lv_iload_n hx hb dX7_act_20 rfl (lv_at hl 0 rfl) ?_
    refine lv_bipush (v := 12) hx hb dX7_act_21 (by decide) ?_
    refine lv_icmp_le (tgt := 28) hx hb dX7_act_23 (by decide) (fun hc3 => ?_) (fun hc3 => ?_)
    · have hw := hw.1 hc3
      refine lv_aload_n hx hb dX7_act_28 rfl (lv_at hl 1 rfl) ?_
      refine lv_dup hx hb dX7_act_29 rfl ?_
      refine gf_X7_162 C hP (o := 130) rfl dX7_act_30 ?_
      refine lv_iconst (v := 1) hx hb dX7_act_33 (by decide) ?_
      refine lv_iadd hx hb dX7_act_34 ?_
      refine pf_X7_162 C hP hS (fun _ h => h) (o := 130) rfl dX7_act_35 (fun H locs hP hS => ?_)
      refine lv_aload_n hx hb dX7_act_38 rfl (lv_at hl 1 rfl) ?_
      refine lv_dup hx hb dX7_act_39 rfl ?_
      refine gf_X7_165 C hP (o := 130) rfl dX7_act_40 ?_
      refine lv_aload_n hx hb dX7_act_43 rfl (lv_at hl 1 rfl) ?_
      refine gf_X7_16 C hP (o := 130) rfl dX7_act_44 ?_
      refine lv_aload_n hx hb dX7_act_47 rfl (lv_at hl 1 rfl) ?_
      refine gf_X7_153 C hP (o := 130) rfl dX7_act_48 ?_
      obtain ⟨hn4, hw⟩ := hw
      refine sy_zald C hP (o := 133) rfl rfl hn4 dX7_act_51 ?_
      refine lv_if_eq (tgt := 80) hx hb dX7_act_52 (by decide) (fun hc5 => ?_) (fun hc5 => ?_)
      · have hw := hw.1 hc5
        exact J39 _ _ _  hw _ _ hP hS ls (lv_sub hl [1, 0] rfl)
      · have hw := hw.2 hc5
        refine lv_aload_n hx hb dX7_act_55 rfl (lv_at hl 1 rfl) ?_
        refine gf_X7_20 C hP (o := 130) rfl dX7_act_56 ?_
        refine lv_sipush (v := 256) hx hb dX7_act_59 (by decide) ?_
        refine lv_aload_n hx hb dX7_act_62 rfl (lv_at hl 1 rfl) ?_
        refine gf_X7_153 C hP (o := 130) rfl dX7_act_63 ?_
        refine lv_imul hx hb dX7_act_66 ?_
        refine lv_aload_n hx hb dX7_act_67 rfl (lv_at hl 1 rfl) ?_
        refine gf_X7_159 C hP (o := 130) rfl dX7_act_68 ?_
        refine lv_iadd hx hb dX7_act_71 ?_
        obtain ⟨hn40, hw⟩ := hw
        refine sy_zald C hP (o := 134) rfl rfl hn40 dX7_act_72 ?_
        refine lv_if_eq (tgt := 80) hx hb dX7_act_73 (by decide) (fun hc41 => ?_) (fun hc41 => ?_)
        · have hw := hw.1 hc41
          exact J39 _ _ _  hw _ _ hP hS ls (lv_sub hl [1, 0] rfl)
        · have hw := hw.2 hc41
          refine lv_iconst (v := 1) hx hb dX7_act_76 (by decide) ?_
          refine lv_goto (tgt := 81) hx hb dX7_act_77 (by decide) ?_
          exact J38 _ _ _ _  hw _ _ hP hS ls (lv_sub hl [1, 0] rfl)
    · have hw := hw.2 hc3
      refine lv_iconst (v := 1) hx hb dX7_act_26 (by decide) ?_
      exact sy_iret C hr hlocks hP hS hw dX7_act_27
  · have hw := hw.2 hc1
    refine lv_iconst (v := 4) hx hb dX7_act_8 (by decide) ?_
    exact sy_iret C hr hlocks hP hS hw dX7_act_9
theorem mw_X7_run : MW yX7_run cX7_run 6 (some .int) 4 := ⟨w_951, w_8, by decide +kernel⟩
def wj_X7_run_119   (j5_22 : Int32) (T23 : St) (post : Int32 → St → Prop) : Prop :=
  ∀ T24 : St, T24 = sl (sl T23 130 17 (((T23).2 130 17) + ((T23.1 130 36).toInt64))) 130 18 (((sl T23 130 17 (((T23).2 130 17) + ((T23.1 130 36).toInt64))).2 130 18) + ((((sl T23 130 17 (((T23).2 130 17) + ((T23.1 130 36).toInt64))).1 130 35) - ((sl T23 130 17 (((T23).2 130 17) + ((T23.1 130 36).toInt64))).1 130 36)).toInt64)) → (vp_in 0 9 ∧ (vp_in 1 9 ∧ (∀ T27 : St, T27 = sv (sv T24 145 ((0 : Int32).toNatClampNeg) (T24.1 130 30)) 145 ((1 : Int32).toNatClampNeg) ((sv T24 145 ((0 : Int32).toNatClampNeg) (T24.1 130 30)).1 130 31) → (vp_in 2 9 ∧ (vp_in 3 9 ∧ (∀ T30 : St, T30 = sv (sv T27 145 ((2 : Int32).toNatClampNeg) (T27.1 130 35)) 145 ((3 : Int32).toNatClampNeg) ((sv T27 145 ((2 : Int32).toNatClampNeg) (T27.1 130 35)).1 130 36) → (vp_in 4 9 ∧ (vp_in 5 9 ∧ (∀ T33 : St, T33 = sv (sv T30 145 ((4 : Int32).toNatClampNeg) ((T30.1 130 35) - (T30.1 130 36))) 145 ((5 : Int32).toNatClampNeg) ((sv T30 145 ((4 : Int32).toNatClampNeg) ((T30.1 130 35) - (T30.1 130 36))).1 130 37) → (vp_in 6 9 ∧ (vp_in 7 9 ∧ (∀ T36 : St, T36 = sv (sv T33 145 ((6 : Int32).toNatClampNeg) (T33.1 130 32)) 145 ((7 : Int32).toNatClampNeg) ((sv T33 145 ((6 : Int32).toNatClampNeg) (T33.1 130 32)).1 130 39) → (vp_in 8 9 ∧ ((¬ j5_22 = 5 → post (-j5_22) (sv T36 145 ((8 : Int32).toNatClampNeg) (T36.1 130 38))) ∧ (j5_22 = 5 → post 1 (sv T36 145 ((8 : Int32).toNatClampNeg) (T36.1 130 38)))))))))))))))))
def wb_X7_run_92 (a4 : Int32) (k13 : (Int32) → St → Prop) (v5_11 : Int32) (T12 : St) (post : Int32 → St → Prop) : Prop :=
 (¬ v5_11 = 0 → (T12.1 130 38 ≤ 0 → wj_X7_run_119 v5_11 T12 post) ∧ (¬ T12.1 130 38 ≤ 0 → wp_X7_keep T12 (fun T40 => wj_X7_run_119 v5_11 T40 post))) ∧ (v5_11 = 0 → wp_X7_act a4 T12 (fun r43 T42 => k13 r43 T42))
def wp_X7_run (a1 : Int32) (a2 : Int32) (a3 : Int32) (a4 : Int32) (T : St) (post : Int32 → St → Prop) : Prop :=
  wp_X7_isRoutine a1 (sv T 130 0 0) (fun r2 T1 => (¬ r2 = 0 → wp_X7_in a4 1 400 T1 (fun r5 T4 => (¬ r5 = 0 → wp_X7_note T4 (fun T7 => vp_in a1 10 ∧ (∀ T10 : St, T10 = sv (sv (sv (sv T7 130 30 a2) 130 31 a3) 130 32 ((sv (sv T7 130 30 a2) 130 31 a3).1 132 a1.toNatClampNeg)) 130 33 a1 → (LW (fun kl (vl : Int32) Tl => wb_X7_run_92 a4 kl vl Tl post) 0 (sv (sv (sv (sv (sv (sv T10 130 34 1) 130 39 1) 130 35 0) 130 36 0) 130 37 0) 130 38 0))))) ∧ (r5 = 0 → post (-2) T4))) ∧ (r2 = 0 → post (-1) T1))
set_option maxHeartbeats 4000000 in
set_option maxRecDepth 100000 in
theorem m_X7_run (l : Launch) (G : Gm) (hi : Inj G) (a1 : Int32) (a2 : Int32) (a3 : Int32) (a4 : Int32)  (T : St) (post : Int32 → St → Prop) (hw : wp_X7_run a1 a2 a3 a4 T post) : Mi l yX7_run cX7_run 6 (some .int) 5 119 G [.ref (G.2.2 130), .int a1, .int a2, .int a3, .int a4] T post := by
  refine sy_head hi (by decide) (Nat.le_of_ble_eq_true rfl) (lv := [(0, .ref (G.2.2 130)), (1, .int a1), (2, .int a2), (3, .int a3), (4, .int a4)]) rfl ?_
  intro p e s m below meth c C hr hlocks hP hS ls hl
  have C : Cx p s m _ c cX7_run 6 RX7 G := C
  obtain ⟨hx, hb, hml, hown, hg, hK, hN, -⟩ := id C
  unfold wp_X7_run at hw
  have J39 : ∀ (j5_22 : Int32) (T23 : St), wj_X7_run_119   j5_22 T23 post → ∀ (H : Heap) (locs : List Loc), va_P G.1 sc_cl (wd G T23) H → va_S (SA G) s.heap H locs → ∀ ls : Array Slot, lv_has ls 6 [(0, .ref (G.2.2 130)), (5, .int j5_22)] → W p l e { frames := 5, cells := 0, slots := 0, locals := 119 } s m ([.ref (G.2.2 130), .int a1, .int a2, .int a3, .int a4] : List Value).toArray below meth c H locs 0 0 (MQ below (va_Qi post (Sy G) (SA G)) ([.ref (G.2.2 130), .int a1, .int a2, .int a3, .int a4] : List Value).toArray s 0 0 (SA G)) (F0 m 119 ls []) := by
    intro j5_22 T23  hw H locs hP hS ls hl
    unfold wj_X7_run_119 at hw
    refine lv_aload_n hx hb dX7_run_119 rfl (lv_at hl 0 rfl) ?_
    refine lv_dup hx hb dX7_run_120 rfl ?_
    refine gf_X7_177 C hP (o := 130) rfl dX7_run_121 ?_
    refine lv_aload_n hx hb dX7_run_124 rfl (lv_at hl 0 rfl) ?_
    refine gf_X7_165 C hP (o := 130) rfl dX7_run_125 ?_
    refine lv_i2l hx hb dX7_run_128 rfl ?_
    refine lv_ladd hx hb dX7_run_129 ?_
    refine pf_X7_177 C hP hS (fun _ h => h) (o := 130) rfl dX7_run_130 (fun H locs hP hS => ?_)
    refine lv_aload_n hx hb dX7_run_133 rfl (lv_at hl 0 rfl) ?_
    refine lv_dup hx hb dX7_run_134 rfl ?_
    refine gf_X7_181 C hP (o := 130) rfl dX7_run_135 ?_
    refine lv_aload_n hx hb dX7_run_138 rfl (lv_at hl 0 rfl) ?_
    refine gf_X7_162 C hP (o := 130) rfl dX7_run_139 ?_
    refine lv_aload_n hx hb dX7_run_142 rfl (lv_at hl 0 rfl) ?_
    refine gf_X7_165 C hP (o := 130) rfl dX7_run_143 ?_
    refine lv_isub hx hb dX7_run_146 ?_
    refine lv_i2l hx hb dX7_run_147 rfl ?_
    refine lv_ladd hx hb dX7_run_148 ?_
    refine pf_X7_181 C hP hS (fun _ h => h) (o := 130) rfl dX7_run_149 (fun H locs hP hS => ?_)
    obtain ⟨T24, eT24, hP⟩ := nameT (P := fun T => va_P G.1 sc_cl (wd G T) H) hP
    have hw := hw T24 eT24
    refine lv_aload_n hx hb dX7_run_152 rfl (lv_at hl 0 rfl) ?_
    refine gf_X7_53 C hP (o := 130) rfl dX7_run_153 ?_
    refine lv_iconst (v := 0) hx hb dX7_run_156 (by decide) ?_
    refine lv_aload_n hx hb dX7_run_157 rfl (lv_at hl 0 rfl) ?_
    refine gf_X7_140 C hP (o := 130) rfl dX7_run_158 ?_
    obtain ⟨hn25, hw⟩ := hw
    refine sy_iast C hP hS (fun _ h => h) (o := 145) rfl rfl hn25 dX7_run_161 (fun H locs hP hS => ?_)
    refine lv_aload_n hx hb dX7_run_162 rfl (lv_at hl 0 rfl) ?_
    refine gf_X7_53 C hP (o := 130) rfl dX7_run_163 ?_
    refine lv_iconst (v := 1) hx hb dX7_run_166 (by decide) ?_
    refine lv_aload_n hx hb dX7_run_167 rfl (lv_at hl 0 rfl) ?_
    refine gf_X7_143 C hP (o := 130) rfl dX7_run_168 ?_
    obtain ⟨hn26, hw⟩ := hw
    refine sy_iast C hP hS (fun _ h => h) (o := 145) rfl rfl hn26 dX7_run_171 (fun H locs hP hS => ?_)
    obtain ⟨T27, eT27, hP⟩ := nameT (P := fun T => va_P G.1 sc_cl (wd G T) H) hP
    have hw := hw T27 eT27
    refine lv_aload_n hx hb dX7_run_172 rfl (lv_at hl 0 rfl) ?_
    refine gf_X7_53 C hP (o := 130) rfl dX7_run_173 ?_
    refine lv_iconst (v := 2) hx hb dX7_run_176 (by decide) ?_
    refine lv_aload_n hx hb dX7_run_177 rfl (lv_at hl 0 rfl) ?_
    refine gf_X7_162 C hP (o := 130) rfl dX7_run_178 ?_
    obtain ⟨hn28, hw⟩ := hw
    refine sy_iast C hP hS (fun _ h => h) (o := 145) rfl rfl hn28 dX7_run_181 (fun H locs hP hS => ?_)
    refine lv_aload_n hx hb dX7_run_182 rfl (lv_at hl 0 rfl) ?_
    refine gf_X7_53 C hP (o := 130) rfl dX7_run_183 ?_
    refine lv_iconst (v := 3) hx hb dX7_run_186 (by decide) ?_
    refine lv_aload_n hx hb dX7_run_187 rfl (lv_at hl 0 rfl) ?_
    refine gf_X7_165 C hP (o := 130) rfl dX7_run_188 ?_
    obtain ⟨hn29, hw⟩ := hw
    refine sy_iast C hP hS (fun _ h => h) (o := 145) rfl rfl hn29 dX7_run_191 (fun H locs hP hS => ?_)
    obtain ⟨T30, eT30, hP⟩ := nameT (P := fun T => va_P G.1 sc_cl (wd G T) H) hP
    have hw := hw T30 eT30
    refine lv_aload_n hx hb dX7_run_192 rfl (lv_at hl 0 rfl) ?_
    refine gf_X7_53 C hP (o := 130) rfl dX7_run_193 ?_
    refine lv_iconst (v := 4) hx hb dX7_run_196 (by decide) ?_
    refine lv_aload_n hx hb dX7_run_197 rfl (lv_at hl 0 rfl) ?_
    refine gf_X7_162 C hP (o := 130) rfl dX7_run_198 ?_
    refine lv_aload_n hx hb dX7_run_201 rfl (lv_at hl 0 rfl) ?_
    refine gf_X7_165 C hP (o := 130) rfl dX7_run_202 ?_
    refine lv_isub hx hb dX7_run_205 ?_
    obtain ⟨hn31, hw⟩ := hw
    refine sy_iast C hP hS (fun _ h => h) (o := 145) rfl rfl hn31 dX7_run_206 (fun H locs hP hS => ?_)
    refine lv_aload_n hx hb dX7_run_207 rfl (lv_at hl 0 rfl) ?_
    refine gf_X7_53 C hP (o := 130) rfl dX7_run_208 ?_
    refine lv_iconst (v := 5) hx hb dX7_run_211 (by decide) ?_
    refine lv_aload_n hx hb dX7_run_212 rfl (lv_at hl 0 rfl) ?_
    refine gf_X7_137 C hP (o := 130) rfl dX7_run_213 ?_
    obtain ⟨hn32, hw⟩ := hw
    refine sy_iast C hP hS (fun _ h => h) (o := 145) rfl rfl hn32 dX7_run_216 (fun H locs hP hS => ?_)
    obtain ⟨T33, eT33, hP⟩ := nameT (P := fun T => va_P G.1 sc_cl (wd G T) H) hP
    have hw := hw T33 eT33
    refine lv_aload_n hx hb dX7_run_217 rfl (lv_at hl 0 rfl) ?_
    refine gf_X7_53 C hP (o := 130) rfl dX7_run_218 ?_
    refine lv_bipush (v := 6) hx hb dX7_run_221 (by decide) ?_
    refine lv_aload_n hx hb dX7_run_223 rfl (lv_at hl 0 rfl) ?_
    refine gf_X7_159 C hP (o := 130) rfl dX7_run_224 ?_
    obtain ⟨hn34, hw⟩ := hw
    refine sy_iast C hP hS (fun _ h => h) (o := 145) rfl rfl hn34 dX7_run_227 (fun H locs hP hS => ?_)
    refine lv_aload_n hx hb dX7_run_228 rfl (lv_at hl 0 rfl) ?_
    refine gf_X7_53 C hP (o := 130) rfl dX7_run_229 ?_
    refine lv_bipush (v := 7) hx hb dX7_run_232 (by decide) ?_
    refine lv_aload_n hx hb dX7_run_234 rfl (lv_at hl 0 rfl) ?_
    refine gf_X7_156 C hP (o := 130) rfl dX7_run_235 ?_
    obtain ⟨hn35, hw⟩ := hw
    refine sy_iast C hP hS (fun _ h => h) (o := 145) rfl rfl hn35 dX7_run_238 (fun H locs hP hS => ?_)
    obtain ⟨T36, eT36, hP⟩ := nameT (P := fun T => va_P G.1 sc_cl (wd G T) H) hP
    have hw := hw T36 eT36
    refine lv_aload_n hx hb dX7_run_239 rfl (lv_at hl 0 rfl) ?_
    refine gf_X7_53 C hP (o := 130) rfl dX7_run_240 ?_
    refine lv_bipush (v := 8) hx hb dX7_run_243 (by decide) ?_
    refine lv_aload_n hx hb dX7_run_245 rfl (lv_at hl 0 rfl) ?_
    refine gf_X7_134 C hP (o := 130) rfl dX7_run_246 ?_
    obtain ⟨hn37, hw⟩ := hw
    refine sy_iast C hP hS (fun _ h => h) (o := 145) rfl rfl hn37 dX7_run_249 (fun H locs hP hS => ?_)
    refine lv_iload hx hb dX7_run_250 (lv_at hl 1 rfl) ?_
    refine lv_iconst (v := 5) hx hb dX7_run_252 (by decide) ?_
    refine lv_icmp_ne (tgt := 260) hx hb dX7_run_253 (by decide) (fun hc38 => ?_) (fun hc38 => ?_)
    · have hw := hw.1 hc38
      refine lv_iload hx hb dX7_run_260 (lv_at hl 1 rfl) ?_
      refine lv_ineg hx hb dX7_run_262 ?_
      exact sy_iret C hr hlocks hP hS hw dX7_run_263
    · have hw := hw.2 hc38
      refine lv_iconst (v := 1) hx hb dX7_run_256 (by decide) ?_
      refine lv_goto (tgt := 263) hx hb dX7_run_257 (by decide) ?_
      exact sy_iret C hr hlocks hP hS hw dX7_run_263
  refine lv_aload_n hx hb dX7_run_0 rfl (lv_at hl 0 rfl) ?_
  refine lv_iconst (v := 0) hx hb dX7_run_1 (by decide) ?_
  refine pf_X7_71 C hP hS (fun _ h => h) (o := 130) rfl dX7_run_2 (fun H locs hP hS => ?_)
  refine lv_aload_n hx hb dX7_run_5 rfl (lv_at hl 0 rfl) ?_
  refine lv_iload_n hx hb dX7_run_6 rfl (lv_at hl 1 rfl) ?_
  refine sy_goi (sy_runV C hP rfl rfl (m_X7_isRoutine l G hi _ _ _ hw) mw_X7_isRoutine w_934 ws_33 w_932 (rest := []) rfl hl.1 rfl (Nat.le_of_ble_eq_true rfl) ⟨Nat.le_of_ble_eq_true rfl, Nat.le_of_ble_eq_true rfl⟩ dX7_run_7 ⟨Nat.zero_le _, Nat.zero_le _⟩) hS (fun _ h => h) (fun r2 T1 H locs hw hP hS => ?_)
  refine lv_if_ne (tgt := 15) hx hb dX7_run_10 (by decide) (fun hc3 => ?_) (fun hc3 => ?_)
  · have hw := hw.1 hc3
    refine lv_iload hx hb dX7_run_15 (lv_at hl 4 rfl) ?_
    refine lv_iconst (v := 1) hx hb dX7_run_17 (by decide) ?_
    refine lv_sipush (v := 400) hx hb dX7_run_18 (by decide) ?_
    refine sy_goi (sy_runS C hP (m_X7_in l G hi _ _ _ _ _ hw) mw_X7_in w_874 w_873 (rest := []) rfl hl.1 rfl (Nat.le_of_ble_eq_true rfl) ⟨Nat.le_of_ble_eq_true rfl, Nat.le_of_ble_eq_true rfl⟩ dX7_run_21 ⟨Nat.zero_le _, Nat.zero_le _⟩) hS (fun _ h => h) (fun r5 T4 H locs hw hP hS => ?_)
    refine lv_if_ne (tgt := 30) hx hb dX7_run_24 (by decide) (fun hc6 => ?_) (fun hc6 => ?_)
    · have hw := hw.1 hc6
      refine lv_aload_n hx hb dX7_run_30 rfl (lv_at hl 0 rfl) ?_
      refine sy_gov (sy_runV C hP rfl rfl (m_X7_note l G hi  _ _ hw) mw_X7_note w_878 ws_25 w_876 (rest := []) rfl hl.1 rfl (Nat.le_of_ble_eq_true rfl) ⟨Nat.le_of_ble_eq_true rfl, Nat.le_of_ble_eq_true rfl⟩ dX7_run_31 ⟨Nat.zero_le _, Nat.zero_le _⟩) hS (fun _ h => h) (fun T7 H locs hw hP hS => ?_)
      refine lv_aload_n hx hb dX7_run_34 rfl (lv_at hl 0 rfl) ?_
      refine lv_iload_n hx hb dX7_run_35 rfl (lv_at hl 2 rfl) ?_
      refine pf_X7_140 C hP hS (fun _ h => h) (o := 130) rfl dX7_run_36 (fun H locs hP hS => ?_)
      refine lv_aload_n hx hb dX7_run_39 rfl (lv_at hl 0 rfl) ?_
      refine lv_iload_n hx hb dX7_run_40 rfl (lv_at hl 3 rfl) ?_
      refine pf_X7_143 C hP hS (fun _ h => h) (o := 130) rfl dX7_run_41 (fun H locs hP hS => ?_)
      refine lv_aload_n hx hb dX7_run_44 rfl (lv_at hl 0 rfl) ?_
      refine lv_aload_n hx hb dX7_run_45 rfl (lv_at hl 0 rfl) ?_
      refine gf_X7_13 C hP (o := 130) rfl dX7_run_46 ?_
      refine lv_iload_n hx hb dX7_run_49 rfl (lv_at hl 1 rfl) ?_
      obtain ⟨hn9, hw⟩ := hw
      refine sy_iald C hP (o := 132) rfl rfl hn9 dX7_run_50 ?_
      refine pf_X7_159 C hP hS (fun _ h => h) (o := 130) rfl dX7_run_51 (fun H locs hP hS => ?_)
      refine lv_aload_n hx hb dX7_run_54 rfl (lv_at hl 0 rfl) ?_
      refine lv_iload_n hx hb dX7_run_55 rfl (lv_at hl 1 rfl) ?_
      refine pf_X7_153 C hP hS (fun _ h => h) (o := 130) rfl dX7_run_56 (fun H locs hP hS => ?_)
      obtain ⟨T10, eT10, hP⟩ := nameT (P := fun T => va_P G.1 sc_cl (wd G T) H) hP
      have hw := hw T10 eT10
      refine lv_aload_n hx hb dX7_run_59 rfl (lv_at hl 0 rfl) ?_
      refine lv_iconst (v := 1) hx hb dX7_run_60 (by decide) ?_
      refine pf_X7_150 C hP hS (fun _ h => h) (o := 130) rfl dX7_run_61 (fun H locs hP hS => ?_)
      refine lv_aload_n hx hb dX7_run_64 rfl (lv_at hl 0 rfl) ?_
      refine lv_iconst (v := 1) hx hb dX7_run_65 (by decide) ?_
      refine pf_X7_156 C hP hS (fun _ h => h) (o := 130) rfl dX7_run_66 (fun H locs hP hS => ?_)
      refine lv_aload_n hx hb dX7_run_69 rfl (lv_at hl 0 rfl) ?_
      refine lv_iconst (v := 0) hx hb dX7_run_70 (by decide) ?_
      refine pf_X7_162 C hP hS (fun _ h => h) (o := 130) rfl dX7_run_71 (fun H locs hP hS => ?_)
      refine lv_aload_n hx hb dX7_run_74 rfl (lv_at hl 0 rfl) ?_
      refine lv_iconst (v := 0) hx hb dX7_run_75 (by decide) ?_
      refine pf_X7_165 C hP hS (fun _ h => h) (o := 130) rfl dX7_run_76 (fun H locs hP hS => ?_)
      refine lv_aload_n hx hb dX7_run_79 rfl (lv_at hl 0 rfl) ?_
      refine lv_iconst (v := 0) hx hb dX7_run_80 (by decide) ?_
      refine pf_X7_137 C hP hS (fun _ h => h) (o := 130) rfl dX7_run_81 (fun H locs hP hS => ?_)
      refine lv_aload_n hx hb dX7_run_84 rfl (lv_at hl 0 rfl) ?_
      refine lv_iconst (v := 0) hx hb dX7_run_85 (by decide) ?_
      refine pf_X7_134 C hP hS (fun _ h => h) (o := 130) rfl dX7_run_86 (fun H locs hP hS => ?_)
      refine lv_iconst (v := 0) hx hb dX7_run_89 (by decide) ?_
      refine lv_istore (lv' := [(5, .int 0), (0, .ref (G.2.2 130)), (1, .int a1), (2, .int a2), (3, .int a3), (4, .int a4)]) hx hb dX7_run_90 hl (by decide) rfl (fun ls hl => ?_)
      obtain ⟨I14, u15, hI, hst16⟩ := hw
      have L19 : ∀ (n : Nat) (v5_11 : Int32) (T12 : St), I14 v5_11 T12 → u15 v5_11 T12 < n → ∀ (H : Heap) (locs : List Loc), va_P G.1 sc_cl (wd G T12) H → va_S (SA G) s.heap H locs → ∀ ls : Array Slot, lv_has ls 6 [(5, .int v5_11), (0, .ref (G.2.2 130)), (4, .int a4)] → W p l e { frames := 5, cells := 0, slots := 0, locals := 119 } s m ([.ref (G.2.2 130), .int a1, .int a2, .int a3, .int a4] : List Value).toArray below meth c H locs 0 0 (MQ below (va_Qi post (Sy G) (SA G)) ([.ref (G.2.2 130), .int a1, .int a2, .int a3, .int a4] : List Value).toArray s 0 0 (SA G)) (F0 m 92 ls []) := by
        intro n
        induction n with
        | zero => intro _ _ _ h; exact absurd h (Nat.not_lt_zero _)
        | succ n ih17 =>
          intro v5_11 T12 hI hlt18 H locs hP hS ls hl
          have hw := hst16 v5_11 T12 hI
          unfold wb_X7_run_92 at hw
          refine lv_iload hx hb dX7_run_92 (lv_at hl 0 rfl) ?_
          refine lv_if_ne (tgt := 108) hx hb dX7_run_94 (by decide) (fun hc20 => ?_) (fun hc20 => ?_)
          · have hw := hw.1 hc20
            refine lv_aload_n hx hb dX7_run_108 rfl (lv_at hl 1 rfl) ?_
            refine gf_X7_134 C hP (o := 130) rfl dX7_run_109 ?_
            refine lv_if_le (tgt := 119) hx hb dX7_run_112 (by decide) (fun hc21 => ?_) (fun hc21 => ?_)
            · have hw := hw.1 hc21
              exact J39 _ _  hw _ _ hP hS ls (lv_sub hl [1, 0] rfl)
            · have hw := hw.2 hc21
              refine lv_aload_n hx hb dX7_run_115 rfl (lv_at hl 1 rfl) ?_
              refine sy_gov (sy_runV C hP rfl rfl (m_X7_keep l G hi  _ _ hw) mw_X7_keep w_895 ws_29 w_893 (rest := []) rfl hl.1 rfl (Nat.le_of_ble_eq_true rfl) ⟨Nat.le_of_ble_eq_true rfl, Nat.le_of_ble_eq_true rfl⟩ dX7_run_116 ⟨Nat.zero_le _, Nat.zero_le _⟩) hS (fun _ h => h) (fun T40 H locs hw hP hS => ?_)
              exact J39 _ _  hw _ _ hP hS ls (lv_sub hl [1, 0] rfl)
          · have hw := hw.2 hc20
            refine lv_aload_n hx hb dX7_run_97 rfl (lv_at hl 1 rfl) ?_
            refine lv_iload hx hb dX7_run_98 (lv_at hl 2 rfl) ?_
            refine sy_goi (sy_runV C hP rfl rfl (m_X7_act l G hi _ _ _ hw) mw_X7_act w_954 ws_35 w_952 (rest := []) rfl hl.1 rfl (Nat.le_of_ble_eq_true rfl) ⟨Nat.le_of_ble_eq_true rfl, Nat.le_of_ble_eq_true rfl⟩ dX7_run_100 ⟨Nat.zero_le _, Nat.zero_le _⟩) hS (fun _ h => h) (fun r43 T42 H locs hw hP hS => ?_)
            refine lv_istore (lv' := [(5, .int r43), (0, .ref (G.2.2 130)), (4, .int a4)]) hx hb dX7_run_103 hl (by decide) rfl (fun ls hl => ?_)
            refine lv_goto (tgt := 92) hx hb dX7_run_105 (by decide) ?_
            exact ih17 _ _ hw.1 (Nat.lt_of_lt_of_le hw.2 (Nat.le_of_lt_succ hlt18)) _ _ hP hS ls (lv_sub hl [0, 1, 2] rfl)
      exact L19 _ _ _ hI (Nat.lt_succ_self _) _ _ hP hS ls (lv_sub hl [0, 1, 5] rfl)
    · have hw := hw.2 hc6
      refine lv_bipush (v := (-2)) hx hb dX7_run_27 (by decide) ?_
      exact sy_iret C hr hlocks hP hS hw dX7_run_29
  · have hw := hw.2 hc3
    refine lv_iconst (v := (-1)) hx hb dX7_run_13 (by decide) ?_
    exact sy_iret C hr hlocks hP hS hw dX7_run_14
theorem mw_X7_ran : MW yX7_ran cX7_ran 2 (some .int) 1 := ⟨w_971, w_8, by decide +kernel⟩
def wp_X7_ran (a1 : Int32) (T : St) (post : Int32 → St → Prop) : Prop :=
  wp_X7_in a1 0 8 (sv T 130 0 0) (fun r2 T1 => (r2 = 0 → post (-2000000002) T1) ∧ (¬ r2 = 0 → vp_in a1 9 ∧ (post (T1.1 145 a1.toNatClampNeg) T1)))
set_option maxHeartbeats 4000000 in
set_option maxRecDepth 100000 in
theorem m_X7_ran (l : Launch) (G : Gm) (hi : Inj G) (a1 : Int32)  (T : St) (post : Int32 → St → Prop) (hw : wp_X7_ran a1 T post) : Mi l yX7_ran cX7_ran 2 (some .int) 1 22 G [.ref (G.2.2 130), .int a1] T post := by
  refine sy_head hi (by decide) (Nat.le_of_ble_eq_true rfl) (lv := [(0, .ref (G.2.2 130)), (1, .int a1)]) rfl ?_
  intro p e s m below meth c C hr hlocks hP hS ls hl
  have C : Cx p s m _ c cX7_ran 2 RX7 G := C
  obtain ⟨hx, hb, hml, hown, hg, hK, hN, -⟩ := id C
  unfold wp_X7_ran at hw
  refine lv_aload_n hx hb dX7_ran_0 rfl (lv_at hl 0 rfl) ?_
  refine lv_iconst (v := 0) hx hb dX7_ran_1 (by decide) ?_
  refine pf_X7_71 C hP hS (fun _ h => h) (o := 130) rfl dX7_ran_2 (fun H locs hP hS => ?_)
  refine lv_iload_n hx hb dX7_ran_5 rfl (lv_at hl 1 rfl) ?_
  refine lv_iconst (v := 0) hx hb dX7_ran_6 (by decide) ?_
  refine lv_bipush (v := 8) hx hb dX7_ran_7 (by decide) ?_
  refine sy_goi (sy_runS C hP (m_X7_in l G hi _ _ _ _ _ hw) mw_X7_in w_874 w_873 (rest := []) rfl hl.1 rfl (Nat.le_of_ble_eq_true rfl) ⟨Nat.le_of_ble_eq_true rfl, Nat.le_of_ble_eq_true rfl⟩ dX7_ran_9 ⟨Nat.zero_le _, Nat.zero_le _⟩) hS (fun _ h => h) (fun r2 T1 H locs hw hP hS => ?_)
  refine lv_if_eq (tgt := 24) hx hb dX7_ran_12 (by decide) (fun hc3 => ?_) (fun hc3 => ?_)
  · have hw := hw.1 hc3
    refine lv_ldc (v := (-2000000002)) hx hb hown (hg _ w_972) dX7_ran_24 ?_
    exact sy_iret C hr hlocks hP hS hw dX7_ran_26
  · have hw := hw.2 hc3
    refine lv_aload_n hx hb dX7_ran_15 rfl (lv_at hl 0 rfl) ?_
    refine gf_X7_53 C hP (o := 130) rfl dX7_ran_16 ?_
    refine lv_iload_n hx hb dX7_ran_19 rfl (lv_at hl 1 rfl) ?_
    obtain ⟨hn4, hw⟩ := hw
    refine sy_iald C hP (o := 145) rfl rfl hn4 dX7_ran_20 ?_
    refine lv_goto (tgt := 26) hx hb dX7_ran_21 (by decide) ?_
    exact sy_iret C hr hlocks hP hS hw dX7_ran_26
theorem mw_X7_alike : MW yX7_alike cX7_alike 5 (some .int) 4 := ⟨w_976, w_8, by decide +kernel⟩
def wp_X7_alike (a1 : Int32) (a2 : Int32) (a3 : Int32) (a4 : Int32) (T : St) (post : Int32 → St → Prop) : Prop :=
  wp_X7_isRoutine a1 (sv T 130 0 0) (fun r2 T1 => (¬ r2 = 0 → wp_X7_in a4 1 400 T1 (fun r5 T4 => (r5 = 0 → post (-2) T4) ∧ (¬ r5 = 0 → post 1 T4))) ∧ (r2 = 0 → post (-1) T1))
set_option maxHeartbeats 4000000 in
set_option maxRecDepth 100000 in
theorem m_X7_alike (l : Launch) (G : Gm) (hi : Inj G) (a1 : Int32) (a2 : Int32) (a3 : Int32) (a4 : Int32)  (T : St) (post : Int32 → St → Prop) (hw : wp_X7_alike a1 a2 a3 a4 T post) : Mi l yX7_alike cX7_alike 5 (some .int) 2 43 G [.ref (G.2.2 130), .int a1, .int a2, .int a3, .int a4] T post := by
  refine sy_head hi (by decide) (Nat.le_of_ble_eq_true rfl) (lv := [(0, .ref (G.2.2 130)), (1, .int a1), (2, .int a2), (3, .int a3), (4, .int a4)]) rfl ?_
  intro p e s m below meth c C hr hlocks hP hS ls hl
  have C : Cx p s m _ c cX7_alike 5 RX7 G := C
  obtain ⟨hx, hb, hml, hown, hg, hK, hN, -⟩ := id C
  unfold wp_X7_alike at hw
  refine lv_aload_n hx hb dX7_alike_0 rfl (lv_at hl 0 rfl) ?_
  refine lv_iconst (v := 0) hx hb dX7_alike_1 (by decide) ?_
  refine pf_X7_71 C hP hS (fun _ h => h) (o := 130) rfl dX7_alike_2 (fun H locs hP hS => ?_)
  refine lv_aload_n hx hb dX7_alike_5 rfl (lv_at hl 0 rfl) ?_
  refine lv_iload_n hx hb dX7_alike_6 rfl (lv_at hl 1 rfl) ?_
  refine sy_goi (sy_runV C hP rfl rfl (m_X7_isRoutine l G hi _ _ _ hw) mw_X7_isRoutine w_934 ws_33 w_932 (rest := []) rfl hl.1 rfl (Nat.le_of_ble_eq_true rfl) ⟨Nat.le_of_ble_eq_true rfl, Nat.le_of_ble_eq_true rfl⟩ dX7_alike_7 ⟨Nat.zero_le _, Nat.zero_le _⟩) hS (fun _ h => h) (fun r2 T1 H locs hw hP hS => ?_)
  refine lv_if_ne (tgt := 17) hx hb dX7_alike_10 (by decide) (fun hc3 => ?_) (fun hc3 => ?_)
  · have hw := hw.1 hc3
    refine lv_iload hx hb dX7_alike_17 (lv_at hl 4 rfl) ?_
    refine lv_iconst (v := 1) hx hb dX7_alike_19 (by decide) ?_
    refine lv_sipush (v := 400) hx hb dX7_alike_20 (by decide) ?_
    refine sy_goi (sy_runS C hP (m_X7_in l G hi _ _ _ _ _ hw) mw_X7_in w_874 w_873 (rest := []) rfl hl.1 rfl (Nat.le_of_ble_eq_true rfl) ⟨Nat.le_of_ble_eq_true rfl, Nat.le_of_ble_eq_true rfl⟩ dX7_alike_23 ⟨Nat.zero_le _, Nat.zero_le _⟩) hS (fun _ h => h) (fun r5 T4 H locs hw hP hS => ?_)
    refine lv_if_eq (tgt := 33) hx hb dX7_alike_26 (by decide) (fun hc6 => ?_) (fun hc6 => ?_)
    · have hw := hw.1 hc6
      refine lv_bipush (v := (-2)) hx hb dX7_alike_33 (by decide) ?_
      exact sy_iret C hr hlocks hP hS hw dX7_alike_35
    · have hw := hw.2 hc6
      refine lv_iconst (v := 1) hx hb dX7_alike_29 (by decide) ?_
      refine lv_goto (tgt := 35) hx hb dX7_alike_30 (by decide) ?_
      exact sy_iret C hr hlocks hP hS hw dX7_alike_35
  · have hw := hw.2 hc3
    refine lv_iconst (v := (-1)) hx hb dX7_alike_13 (by decide) ?_
    refine lv_goto (tgt := 35) hx hb dX7_alike_14 (by decide) ?_
    exact sy_iret C hr hlocks hP hS hw dX7_alike_35
theorem mw_X7_page : MW yX7_page cX7_page 6 (some .int) 1 := ⟨w_980, w_8, by decide +kernel⟩
def wb_X7_page_36 (a1 : Int32) (v2_4 : Int32) (v3_5 : Int32) (k7 : (Int32 × Int32) → St → Prop) (k18 : (Int32 × Int32) → St → Prop) (v4_15 : Int32) (v5_16 : Int32) (T17 : St) (post : Int32 → St → Prop) : Prop :=
 (16 ≤ v5_16 → (v4_15 = 0 → k7 (v2_4 + 0, v3_5 + 1) T17) ∧ (¬ v4_15 = 0 → k7 (v2_4 + 1, v3_5 + 1) T17)) ∧ (¬ 16 ≤ v5_16 → vp_in v3_5 10 ∧ ((T17.1 133 v3_5.toNatClampNeg = 0 → (v4_15 = 0 → k7 (v2_4 + 0, v3_5 + 1) T17) ∧ (¬ v4_15 = 0 → k7 (v2_4 + 1, v3_5 + 1) T17)) ∧ (¬ T17.1 133 v3_5.toNatClampNeg = 0 → (¬ v4_15 = 0 → k18 (1, v5_16 + 1) T17) ∧ (v4_15 = 0 → vp_in (((256 * v3_5) + (16 * a1)) + v5_16) 2560 ∧ ((T17.1 135 (((256 * v3_5) + (16 * a1)) + v5_16).toNatClampNeg = 0 → k18 (0, v5_16 + 1) T17) ∧ (¬ T17.1 135 (((256 * v3_5) + (16 * a1)) + v5_16).toNatClampNeg = 0 → k18 (1, v5_16 + 1) T17))))))
def wb_X7_page_22 (a1 : Int32) (k7 : (Int32 × Int32) → St → Prop) (v2_4 : Int32) (v3_5 : Int32) (T6 : St) (post : Int32 → St → Prop) : Prop :=
 (T6.1 130 2 ≤ v3_5 → post v2_4 T6) ∧ (¬ T6.1 130 2 ≤ v3_5 → LW (fun kl (vl : Int32 × Int32) Tl => wb_X7_page_36 a1 v2_4 v3_5 k7 kl vl.1 vl.2 Tl post) (0, 0) T6)
def wp_X7_page (a1 : Int32) (T : St) (post : Int32 → St → Prop) : Prop :=
  wp_X7_in a1 0 15 (sv T 130 0 0) (fun r2 T1 => (¬ r2 = 0 → LW (fun kl (vl : Int32 × Int32) Tl => wb_X7_page_22 a1 kl vl.1 vl.2 Tl post) (0, 0) T1) ∧ (r2 = 0 → post (-2) T1))
set_option maxHeartbeats 4000000 in
set_option maxRecDepth 100000 in
theorem m_X7_page (l : Launch) (G : Gm) (hi : Inj G) (a1 : Int32)  (T : St) (post : Int32 → St → Prop) (hw : wp_X7_page a1 T post) : Mi l yX7_page cX7_page 6 (some .int) 1 22 G [.ref (G.2.2 130), .int a1] T post := by
  refine sy_head hi (by decide) (Nat.le_of_ble_eq_true rfl) (lv := [(0, .ref (G.2.2 130)), (1, .int a1)]) rfl ?_
  intro p e s m below meth c C hr hlocks hP hS ls hl
  have C : Cx p s m _ c cX7_page 6 RX7 G := C
  obtain ⟨hx, hb, hml, hown, hg, hK, hN, -⟩ := id C
  unfold wp_X7_page at hw
  refine lv_aload_n hx hb dX7_page_0 rfl (lv_at hl 0 rfl) ?_
  refine lv_iconst (v := 0) hx hb dX7_page_1 (by decide) ?_
  refine pf_X7_71 C hP hS (fun _ h => h) (o := 130) rfl dX7_page_2 (fun H locs hP hS => ?_)
  refine lv_iload_n hx hb dX7_page_5 rfl (lv_at hl 1 rfl) ?_
  refine lv_iconst (v := 0) hx hb dX7_page_6 (by decide) ?_
  refine lv_bipush (v := 15) hx hb dX7_page_7 (by decide) ?_
  refine sy_goi (sy_runS C hP (m_X7_in l G hi _ _ _ _ _ hw) mw_X7_in w_874 w_873 (rest := []) rfl hl.1 rfl (Nat.le_of_ble_eq_true rfl) ⟨Nat.le_of_ble_eq_true rfl, Nat.le_of_ble_eq_true rfl⟩ dX7_page_9 ⟨Nat.zero_le _, Nat.zero_le _⟩) hS (fun _ h => h) (fun r2 T1 H locs hw hP hS => ?_)
  refine lv_if_ne (tgt := 18) hx hb dX7_page_12 (by decide) (fun hc3 => ?_) (fun hc3 => ?_)
  · have hw := hw.1 hc3
    refine lv_iconst (v := 0) hx hb dX7_page_18 (by decide) ?_
    refine lv_istore_n (lv' := [(2, .int 0), (0, .ref (G.2.2 130)), (1, .int a1)]) hx hb dX7_page_19 rfl hl (by decide) rfl (fun ls hl => ?_)
    refine lv_iconst (v := 0) hx hb dX7_page_20 (by decide) ?_
    refine lv_istore_n (lv' := [(3, .int 0), (2, .int 0), (0, .ref (G.2.2 130)), (1, .int a1)]) hx hb dX7_page_21 rfl hl (by decide) rfl (fun ls hl => ?_)
    obtain ⟨I8, u9, hI, hst10⟩ := hw
    have L13 : ∀ (n : Nat) (v2_4 : Int32) (v3_5 : Int32) (T6 : St), I8 (v2_4, v3_5) T6 → u9 (v2_4, v3_5) T6 < n → ∀ (H : Heap) (locs : List Loc), va_P G.1 sc_cl (wd G T6) H → va_S (SA G) s.heap H locs → ∀ ls : Array Slot, lv_has ls 6 [(3, .int v3_5), (2, .int v2_4), (0, .ref (G.2.2 130)), (1, .int a1)] → W p l e { frames := 1, cells := 0, slots := 0, locals := 22 } s m ([.ref (G.2.2 130), .int a1] : List Value).toArray below meth c H locs 0 0 (MQ below (va_Qi post (Sy G) (SA G)) ([.ref (G.2.2 130), .int a1] : List Value).toArray s 0 0 (SA G)) (F0 m 22 ls []) := by
      intro n
      induction n with
      | zero => intro _ _ _ _ h; exact absurd h (Nat.not_lt_zero _)
      | succ n ih11 =>
        intro v2_4 v3_5 T6 hI hlt12 H locs hP hS ls hl
        have hw := hst10 (v2_4, v3_5) T6 hI
        unfold wb_X7_page_22 at hw
        refine lv_iload_n hx hb dX7_page_22 rfl (lv_at hl 0 rfl) ?_
        refine lv_aload_n hx hb dX7_page_23 rfl (lv_at hl 2 rfl) ?_
        refine gf_X7_75 C hP (o := 130) rfl dX7_page_24 ?_
        refine lv_icmp_ge (tgt := 110) hx hb dX7_page_27 (by decide) (fun hc14 => ?_) (fun hc14 => ?_)
        · have hw := hw.1 hc14
          refine lv_iload_n hx hb dX7_page_110 rfl (lv_at hl 1 rfl) ?_
          exact sy_iret C hr hlocks hP hS hw dX7_page_111
        · have hw := hw.2 hc14
          refine lv_iconst (v := 0) hx hb dX7_page_30 (by decide) ?_
          refine lv_istore (lv' := [(4, .int 0), (3, .int v3_5), (2, .int v2_4), (0, .ref (G.2.2 130)), (1, .int a1)]) hx hb dX7_page_31 hl (by decide) rfl (fun ls hl => ?_)
          refine lv_iconst (v := 0) hx hb dX7_page_33 (by decide) ?_
          refine lv_istore (lv' := [(5, .int 0), (4, .int 0), (3, .int v3_5), (2, .int v2_4), (0, .ref (G.2.2 130)), (1, .int a1)]) hx hb dX7_page_34 hl (by decide) rfl (fun ls hl => ?_)
          obtain ⟨I19, u20, hI, hst21⟩ := hw
          have L24 : ∀ (n : Nat) (v4_15 : Int32) (v5_16 : Int32) (T17 : St), I19 (v4_15, v5_16) T17 → u20 (v4_15, v5_16) T17 < n → ∀ (H : Heap) (locs : List Loc), va_P G.1 sc_cl (wd G T17) H → va_S (SA G) s.heap H locs → ∀ ls : Array Slot, lv_has ls 6 [(5, .int v5_16), (4, .int v4_15), (3, .int v3_5), (2, .int v2_4), (0, .ref (G.2.2 130)), (1, .int a1)] → W p l e { frames := 1, cells := 0, slots := 0, locals := 22 } s m ([.ref (G.2.2 130), .int a1] : List Value).toArray below meth c H locs 0 0 (MQ below (va_Qi post (Sy G) (SA G)) ([.ref (G.2.2 130), .int a1] : List Value).toArray s 0 0 (SA G)) (F0 m 36 ls []) := by
            intro n
            induction n with
            | zero => intro _ _ _ _ h; exact absurd h (Nat.not_lt_zero _)
            | succ n ih22 =>
              intro v4_15 v5_16 T17 hI hlt23 H locs hP hS ls hl
              have hw := hst21 (v4_15, v5_16) T17 hI
              unfold wb_X7_page_36 at hw
              refine lv_iload hx hb dX7_page_36 (lv_at hl 0 rfl) ?_
              refine lv_bipush (v := 16) hx hb dX7_page_38 (by decide) ?_
              refine lv_icmp_ge (tgt := 91) hx hb dX7_page_40 (by decide) (fun hc25 => ?_) (fun hc25 => ?_)
              · have hw := hw.1 hc25
                refine lv_iload_n hx hb dX7_page_91 rfl (lv_at hl 3 rfl) ?_
                refine lv_iload hx hb dX7_page_92 (lv_at hl 1 rfl) ?_
                refine lv_if_eq (tgt := 101) hx hb dX7_page_94 (by decide) (fun hc26 => ?_) (fun hc26 => ?_)
                · have hw := hw.1 hc26
                  refine lv_iconst (v := 0) hx hb dX7_page_101 (by decide) ?_
                  refine lv_iadd hx hb dX7_page_102 ?_
                  refine lv_istore_n (lv' := [(2, .int (v2_4 + 0)), (5, .int v5_16), (4, .int v4_15), (3, .int v3_5), (0, .ref (G.2.2 130)), (1, .int a1)]) hx hb dX7_page_103 rfl hl (by decide) rfl (fun ls hl => ?_)
                  refine lv_iinc (v := v3_5 + 1) (lv' := [(3, .int (v3_5 + 1)), (2, .int (v2_4 + 0)), (5, .int v5_16), (4, .int v4_15), (0, .ref (G.2.2 130)), (1, .int a1)]) hx hb dX7_page_104 hl (k := 3) rfl rfl (by decide) rfl (fun ls hl => ?_)
                  refine lv_goto (tgt := 22) hx hb dX7_page_107 (by decide) ?_
                  exact ih11 _ _ _ hw.1 (Nat.lt_of_lt_of_le hw.2 (Nat.le_of_lt_succ hlt12)) _ _ hP hS ls (lv_sub hl [0, 1, 4, 5] rfl)
                · have hw := hw.2 hc26
                  refine lv_iconst (v := 1) hx hb dX7_page_97 (by decide) ?_
                  refine lv_goto (tgt := 102) hx hb dX7_page_98 (by decide) ?_
                  refine lv_iadd hx hb dX7_page_102 ?_
                  refine lv_istore_n (lv' := [(2, .int (v2_4 + 1)), (5, .int v5_16), (4, .int v4_15), (3, .int v3_5), (0, .ref (G.2.2 130)), (1, .int a1)]) hx hb dX7_page_103 rfl hl (by decide) rfl (fun ls hl => ?_)
                  refine lv_iinc (v := v3_5 + 1) (lv' := [(3, .int (v3_5 + 1)), (2, .int (v2_4 + 1)), (5, .int v5_16), (4, .int v4_15), (0, .ref (G.2.2 130)), (1, .int a1)]) hx hb dX7_page_104 hl (k := 3) rfl rfl (by decide) rfl (fun ls hl => ?_)
                  refine lv_goto (tgt := 22) hx hb dX7_page_107 (by decide) ?_
                  exact ih11 _ _ _ hw.1 (Nat.lt_of_lt_of_le hw.2 (Nat.le_of_lt_succ hlt12)) _ _ hP hS ls (lv_sub hl [0, 1, 4, 5] rfl)
              · have hw := hw.2 hc25
                refine lv_aload_n hx hb dX7_page_43 rfl (lv_at hl 4 rfl) ?_
                refine gf_X7_16 C hP (o := 130) rfl dX7_page_44 ?_
                refine lv_iload_n hx hb dX7_page_47 rfl (lv_at hl 2 rfl) ?_
                obtain ⟨hn27, hw⟩ := hw
                refine sy_zald C hP (o := 133) rfl rfl hn27 dX7_page_48 ?_
                refine lv_if_eq (tgt := 91) hx hb dX7_page_49 (by decide) (fun hc28 => ?_) (fun hc28 => ?_)
                · have hw := hw.1 hc28
                  refine lv_iload_n hx hb dX7_page_91 rfl (lv_at hl 3 rfl) ?_
                  refine lv_iload hx hb dX7_page_92 (lv_at hl 1 rfl) ?_
                  refine lv_if_eq (tgt := 101) hx hb dX7_page_94 (by decide) (fun hc29 => ?_) (fun hc29 => ?_)
                  · have hw := hw.1 hc29
                    refine lv_iconst (v := 0) hx hb dX7_page_101 (by decide) ?_
                    refine lv_iadd hx hb dX7_page_102 ?_
                    refine lv_istore_n (lv' := [(2, .int (v2_4 + 0)), (5, .int v5_16), (4, .int v4_15), (3, .int v3_5), (0, .ref (G.2.2 130)), (1, .int a1)]) hx hb dX7_page_103 rfl hl (by decide) rfl (fun ls hl => ?_)
                    refine lv_iinc (v := v3_5 + 1) (lv' := [(3, .int (v3_5 + 1)), (2, .int (v2_4 + 0)), (5, .int v5_16), (4, .int v4_15), (0, .ref (G.2.2 130)), (1, .int a1)]) hx hb dX7_page_104 hl (k := 3) rfl rfl (by decide) rfl (fun ls hl => ?_)
                    refine lv_goto (tgt := 22) hx hb dX7_page_107 (by decide) ?_
                    exact ih11 _ _ _ hw.1 (Nat.lt_of_lt_of_le hw.2 (Nat.le_of_lt_succ hlt12)) _ _ hP hS ls (lv_sub hl [0, 1, 4, 5] rfl)
                  · have hw := hw.2 hc29
                    refine lv_iconst (v := 1) hx hb dX7_page_97 (by decide) ?_
                    refine lv_goto (tgt := 102) hx hb dX7_page_98 (by decide) ?_
                    refine lv_iadd hx hb dX7_page_102 ?_
                    refine lv_istore_n (lv' := [(2, .int (v2_4 + 1)), (5, .int v5_16), (4, .int v4_15), (3, .int v3_5), (0, .ref (G.2.2 130)), (1, .int a1)]) hx hb dX7_page_103 rfl hl (by decide) rfl (fun ls hl => ?_)
                    refine lv_iinc (v := v3_5 + 1) (lv' := [(3, .int (v3_5 + 1)), (2, .int (v2_4 + 1)), (5, .int v5_16), (4, .int v4_15), (0, .ref (G.2.2 130)), (1, .int a1)]) hx hb dX7_page_104 hl (k := 3) rfl rfl (by decide) rfl (fun ls hl => ?_)
                    refine lv_goto (tgt := 22) hx hb dX7_page_107 (by decide) ?_
                    exact ih11 _ _ _ hw.1 (Nat.lt_of_lt_of_le hw.2 (Nat.le_of_lt_succ hlt12)) _ _ hP hS ls (lv_sub hl [0, 1, 4, 5] rfl)
                · have hw := hw.2 hc28
                  refine lv_iload hx hb dX7_page_52 (lv_at hl 1 rfl) ?_
                  refine lv_if_ne (tgt := 78) hx hb dX7_page_54 (by decide) (fun hc30 => ?_) (fun hc30 => ?_)
                  · have hw := hw.1 hc30
                    refine lv_iconst (v := 1) hx hb dX7_page_78 (by decide) ?_
                    refine lv_goto (tgt := 83) hx hb dX7_page_79 (by decide) ?_
                    refine lv_istore (lv' := [(4, .int 1), (5, .int v5_16), (3, .int v3_5), (2, .int v2_4), (0, .ref (G.2.2 130)), (1, .int a1)]) hx hb dX7_page_83 hl (by decide) rfl (fun ls hl => ?_)
                    refine lv_iinc (v := v5_16 + 1) (lv' := [(5, .int (v5_16 + 1)), (4, .int 1), (3, .int v3_5), (2, .int v2_4), (0, .ref (G.2.2 130)), (1, .int a1)]) hx hb dX7_page_85 hl (k := 1) rfl rfl (by decide) rfl (fun ls hl => ?_)
                    refine lv_goto (tgt := 36) hx hb dX7_page_88 (by decide) ?_
                    exact ih22 _ _ _ hw.1 (Nat.lt_of_lt_of_le hw.2 (Nat.le_of_lt_succ hlt23)) _ _ hP hS ls (lv_sub hl [0, 1, 2, 3, 4, 5] rfl)
                  · have hw := hw.2 hc30
                    refine lv_aload_n hx hb dX7_page_57 rfl (lv_at hl 4 rfl) ?_
                    refine gf_X7_23 C hP (o := 130) rfl dX7_page_58 ?_
                    refine lv_sipush (v := 256) hx hb dX7_page_61 (by decide) ?_
                    refine lv_iload_n hx hb dX7_page_64 rfl (lv_at hl 2 rfl) ?_
                    refine lv_imul hx hb dX7_page_65 ?_
                    refine lv_bipush (v := 16) hx hb dX7_page_66 (by decide) ?_
                    refine lv_iload_n hx hb dX7_page_68 rfl (lv_at hl 5 rfl) ?_
                    refine lv_imul hx hb dX7_page_69 ?_
                    refine lv_iadd hx hb dX7_page_70 ?_
                    refine lv_iload hx hb dX7_page_71 (lv_at hl 0 rfl) ?_
                    refine lv_iadd hx hb dX7_page_73 ?_
                    obtain ⟨hn31, hw⟩ := hw
                    refine sy_zald C hP (o := 135) rfl rfl hn31 dX7_page_74 ?_
                    refine lv_if_eq (tgt := 82) hx hb dX7_page_75 (by decide) (fun hc32 => ?_) (fun hc32 => ?_)
                    · have hw := hw.1 hc32
                      refine lv_iconst (v := 0) hx hb dX7_page_82 (by decide) ?_
                      refine lv_istore (lv' := [(4, .int 0), (5, .int v5_16), (3, .int v3_5), (2, .int v2_4), (0, .ref (G.2.2 130)), (1, .int a1)]) hx hb dX7_page_83 hl (by decide) rfl (fun ls hl => ?_)
                      refine lv_iinc (v := v5_16 + 1) (lv' := [(5, .int (v5_16 + 1)), (4, .int 0), (3, .int v3_5), (2, .int v2_4), (0, .ref (G.2.2 130)), (1, .int a1)]) hx hb dX7_page_85 hl (k := 1) rfl rfl (by decide) rfl (fun ls hl => ?_)
                      refine lv_goto (tgt := 36) hx hb dX7_page_88 (by decide) ?_
                      exact ih22 _ _ _ hw.1 (Nat.lt_of_lt_of_le hw.2 (Nat.le_of_lt_succ hlt23)) _ _ hP hS ls (lv_sub hl [0, 1, 2, 3, 4, 5] rfl)
                    · have hw := hw.2 hc32
                      refine lv_iconst (v := 1) hx hb dX7_page_78 (by decide) ?_
                      refine lv_goto (tgt := 83) hx hb dX7_page_79 (by decide) ?_
                      refine lv_istore (lv' := [(4, .int 1), (5, .int v5_16), (3, .int v3_5), (2, .int v2_4), (0, .ref (G.2.2 130)), (1, .int a1)]) hx hb dX7_page_83 hl (by decide) rfl (fun ls hl => ?_)
                      refine lv_iinc (v := v5_16 + 1) (lv' := [(5, .int (v5_16 + 1)), (4, .int 1), (3, .int v3_5), (2, .int v2_4), (0, .ref (G.2.2 130)), (1, .int a1)]) hx hb dX7_page_85 hl (k := 1) rfl rfl (by decide) rfl (fun ls hl => ?_)
                      refine lv_goto (tgt := 36) hx hb dX7_page_88 (by decide) ?_
                      exact ih22 _ _ _ hw.1 (Nat.lt_of_lt_of_le hw.2 (Nat.le_of_lt_succ hlt23)) _ _ hP hS ls (lv_sub hl [0, 1, 2, 3, 4, 5] rfl)
          exact L24 _ _ _ _ hI (Nat.lt_succ_self _) _ _ hP hS ls (lv_sub hl [0, 1, 2, 3, 4, 5] rfl)
    exact L13 _ _ _ _ hI (Nat.lt_succ_self _) _ _ hP hS ls (lv_sub hl [0, 1, 2, 3] rfl)
  · have hw := hw.2 hc3
    refine lv_bipush (v := (-2)) hx hb dX7_page_15 (by decide) ?_
    exact sy_iret C hr hlocks hP hS hw dX7_page_17
theorem mw_X7_snapshot : MW yX7_snapshot cX7_snapshot 2 (some .int) 0 := ⟨w_984, w_8, by decide +kernel⟩
def wb_X7_snapshot_18  (k4 : (Int32) → St → Prop) (v1_2 : Int32) (T3 : St) (post : Int32 → St → Prop) : Prop :=
 (256 ≤ v1_2 → post (((sv T3 130 19 ((T3.1 130 19) + 1)).1 130 19) - 1) (sv T3 130 19 ((T3.1 130 19) + 1))) ∧ (¬ 256 ≤ v1_2 → vp_in v1_2 256 ∧ (vp_in ((256 * (T3.1 130 19)) + v1_2) 1024 ∧ (k4 (v1_2 + 1) (sv T3 142 (((256 * (T3.1 130 19)) + v1_2).toNatClampNeg) (T3.1 131 v1_2.toNatClampNeg)))))
def wp_X7_snapshot (T : St) (post : Int32 → St → Prop) : Prop :=
  (¬ (sv T 130 0 0).1 130 19 = 4 → LW (fun kl (vl : Int32) Tl => wb_X7_snapshot_18 kl vl Tl post) 0 (sv T 130 0 0)) ∧ ((sv T 130 0 0).1 130 19 = 4 → post (-4) (sv T 130 0 0))
set_option maxHeartbeats 4000000 in
set_option maxRecDepth 100000 in
theorem m_X7_snapshot (l : Launch) (G : Gm) (hi : Inj G)   (T : St) (post : Int32 → St → Prop) (hw : wp_X7_snapshot T post) : Mi l yX7_snapshot cX7_snapshot 2 (some .int) 0 0 G [.ref (G.2.2 130)] T post := by
  refine sy_head hi (by decide) (Nat.le_of_ble_eq_true rfl) (lv := [(0, .ref (G.2.2 130))]) rfl ?_
  intro p e s m below meth c C hr hlocks hP hS ls hl
  have C : Cx p s m _ c cX7_snapshot 2 RX7 G := C
  obtain ⟨hx, hb, hml, hown, hg, hK, hN, -⟩ := id C
  unfold wp_X7_snapshot at hw
  refine lv_aload_n hx hb dX7_snapshot_0 rfl (lv_at hl 0 rfl) ?_
  refine lv_iconst (v := 0) hx hb dX7_snapshot_1 (by decide) ?_
  refine pf_X7_71 C hP hS (fun _ h => h) (o := 130) rfl dX7_snapshot_2 (fun H locs hP hS => ?_)
  refine lv_aload_n hx hb dX7_snapshot_5 rfl (lv_at hl 0 rfl) ?_
  refine gf_X7_185 C hP (o := 130) rfl dX7_snapshot_6 ?_
  refine lv_iconst (v := 4) hx hb dX7_snapshot_9 (by decide) ?_
  refine lv_icmp_ne (tgt := 16) hx hb dX7_snapshot_10 (by decide) (fun hc1 => ?_) (fun hc1 => ?_)
  · have hw := hw.1 hc1
    refine lv_iconst (v := 0) hx hb dX7_snapshot_16 (by decide) ?_
    refine lv_istore_n (lv' := [(1, .int 0), (0, .ref (G.2.2 130))]) hx hb dX7_snapshot_17 rfl hl (by decide) rfl (fun ls hl => ?_)
    obtain ⟨I5, u6, hI, hst7⟩ := hw
    have L10 : ∀ (n : Nat) (v1_2 : Int32) (T3 : St), I5 v1_2 T3 → u6 v1_2 T3 < n → ∀ (H : Heap) (locs : List Loc), va_P G.1 sc_cl (wd G T3) H → va_S (SA G) s.heap H locs → ∀ ls : Array Slot, lv_has ls 2 [(1, .int v1_2), (0, .ref (G.2.2 130))] → W p l e { frames := 0, cells := 0, slots := 0, locals := 0 } s m ([.ref (G.2.2 130)] : List Value).toArray below meth c H locs 0 0 (MQ below (va_Qi post (Sy G) (SA G)) ([.ref (G.2.2 130)] : List Value).toArray s 0 0 (SA G)) (F0 m 18 ls []) := by
      intro n
      induction n with
      | zero => intro _ _ _ h; exact absurd h (Nat.not_lt_zero _)
      | succ n ih8 =>
        intro v1_2 T3 hI hlt9 H locs hP hS ls hl
        have hw := hst7 v1_2 T3 hI
        unfold wb_X7_snapshot_18 at hw
        refine lv_iload_n hx hb dX7_snapshot_18 rfl (lv_at hl 0 rfl) ?_
        refine lv_sipush (v := 256) hx hb dX7_snapshot_19 (by decide) ?_
        refine lv_icmp_ge (tgt := 52) hx hb dX7_snapshot_22 (by decide) (fun hc11 => ?_) (fun hc11 => ?_)
        · have hw := hw.1 hc11
          refine lv_aload_n hx hb dX7_snapshot_52 rfl (lv_at hl 1 rfl) ?_
          refine lv_dup hx hb dX7_snapshot_53 rfl ?_
          refine gf_X7_185 C hP (o := 130) rfl dX7_snapshot_54 ?_
          refine lv_iconst (v := 1) hx hb dX7_snapshot_57 (by decide) ?_
          refine lv_iadd hx hb dX7_snapshot_58 ?_
          refine pf_X7_185 C hP hS (fun _ h => h) (o := 130) rfl dX7_snapshot_59 (fun H locs hP hS => ?_)
          refine lv_aload_n hx hb dX7_snapshot_62 rfl (lv_at hl 1 rfl) ?_
          refine gf_X7_185 C hP (o := 130) rfl dX7_snapshot_63 ?_
          refine lv_iconst (v := 1) hx hb dX7_snapshot_66 (by decide) ?_
          refine lv_isub hx hb dX7_snapshot_67 ?_
          exact sy_iret C hr hlocks hP hS hw dX7_snapshot_68
        · have hw := hw.2 hc11
          refine lv_aload_n hx hb dX7_snapshot_25 rfl (lv_at hl 1 rfl) ?_
          refine gf_X7_44 C hP (o := 130) rfl dX7_snapshot_26 ?_
          refine lv_sipush (v := 256) hx hb dX7_snapshot_29 (by decide) ?_
          refine lv_aload_n hx hb dX7_snapshot_32 rfl (lv_at hl 1 rfl) ?_
          refine gf_X7_185 C hP (o := 130) rfl dX7_snapshot_33 ?_
          refine lv_imul hx hb dX7_snapshot_36 ?_
          refine lv_iload_n hx hb dX7_snapshot_37 rfl (lv_at hl 0 rfl) ?_
          refine lv_iadd hx hb dX7_snapshot_38 ?_
          refine lv_aload_n hx hb dX7_snapshot_39 rfl (lv_at hl 1 rfl) ?_
          refine gf_X7_7 C hP (o := 130) rfl dX7_snapshot_40 ?_
          refine lv_iload_n hx hb dX7_snapshot_43 rfl (lv_at hl 0 rfl) ?_
          obtain ⟨hn12, hw⟩ := hw
          refine sy_iald C hP (o := 131) rfl rfl hn12 dX7_snapshot_44 ?_
          obtain ⟨hn13, hw⟩ := hw
          refine sy_iast C hP hS (fun _ h => h) (o := 142) rfl rfl hn13 dX7_snapshot_45 (fun H locs hP hS => ?_)
          refine lv_iinc (v := v1_2 + 1) (lv' := [(1, .int (v1_2 + 1)), (0, .ref (G.2.2 130))]) hx hb dX7_snapshot_46 hl (k := 0) rfl rfl (by decide) rfl (fun ls hl => ?_)
          refine lv_goto (tgt := 18) hx hb dX7_snapshot_49 (by decide) ?_
          exact ih8 _ _ hw.1 (Nat.lt_of_lt_of_le hw.2 (Nat.le_of_lt_succ hlt9)) _ _ hP hS ls (lv_sub hl [0, 1] rfl)
    exact L10 _ _ _ hI (Nat.lt_succ_self _) _ _ hP hS ls (lv_sub hl [0, 1] rfl)
  · have hw := hw.2 hc1
    refine lv_bipush (v := (-4)) hx hb dX7_snapshot_13 (by decide) ?_
    exact sy_iret C hr hlocks hP hS hw dX7_snapshot_15
theorem mw_X7_isAsMade : MW yX7_isAsMade cX7_isAsMade 4 (some .boolean) 1 := ⟨w_996, w_8, by decide +kernel⟩
def wb_X7_isAsMade_4 (a1 : Int32) (k4 : (Int32 × Int32) → St → Prop) (v2_1 : Int32) (v3_2 : Int32) (T3 : St) (post : Int32 → St → Prop) : Prop :=
 (256 ≤ v3_2 → narrow .boolean (.int v2_1) = .int v2_1 ∧ post v2_1 T3) ∧ (¬ 256 ≤ v3_2 → (v2_1 = 0 → k4 (0, v3_2 + 1) T3) ∧ (¬ v2_1 = 0 → vp_in ((256 * a1) + v3_2) 2560 ∧ ((T3.1 140 ((256 * a1) + v3_2).toNatClampNeg = 0 → k4 (1, v3_2 + 1) T3) ∧ (¬ T3.1 140 ((256 * a1) + v3_2).toNatClampNeg = 0 → vp_in ((256 * a1) + v3_2) 2560 ∧ (vp_in v3_2 256 ∧ ((¬ T3.1 141 ((256 * a1) + v3_2).toNatClampNeg = T3.1 131 v3_2.toNatClampNeg → k4 (0, v3_2 + 1) T3) ∧ (T3.1 141 ((256 * a1) + v3_2).toNatClampNeg = T3.1 131 v3_2.toNatClampNeg → k4 (1, v3_2 + 1) T3)))))))
def wp_X7_isAsMade (a1 : Int32) (T : St) (post : Int32 → St → Prop) : Prop :=
  LW (fun kl (vl : Int32 × Int32) Tl => wb_X7_isAsMade_4 a1 kl vl.1 vl.2 Tl post) (1, 0) T
set_option maxHeartbeats 4000000 in
set_option maxRecDepth 100000 in
theorem m_X7_isAsMade (l : Launch) (G : Gm) (hi : Inj G) (a1 : Int32)  (T : St) (post : Int32 → St → Prop) (hw : wp_X7_isAsMade a1 T post) : Mi l yX7_isAsMade cX7_isAsMade 4 (some .boolean) 0 0 G [.ref (G.2.2 130), .int a1] T post := by
  refine sy_head hi (by decide) (Nat.le_of_ble_eq_true rfl) (lv := [(0, .ref (G.2.2 130)), (1, .int a1)]) rfl ?_
  intro p e s m below meth c C hr hlocks hP hS ls hl
  have C : Cx p s m _ c cX7_isAsMade 4 RX7 G := C
  obtain ⟨hx, hb, hml, hown, hg, hK, hN, -⟩ := id C
  unfold wp_X7_isAsMade at hw
  refine lv_iconst (v := 1) hx hb dX7_isAsMade_0 (by decide) ?_
  refine lv_istore_n (lv' := [(2, .int 1), (0, .ref (G.2.2 130)), (1, .int a1)]) hx hb dX7_isAsMade_1 rfl hl (by decide) rfl (fun ls hl => ?_)
  refine lv_iconst (v := 0) hx hb dX7_isAsMade_2 (by decide) ?_
  refine lv_istore_n (lv' := [(3, .int 0), (2, .int 1), (0, .ref (G.2.2 130)), (1, .int a1)]) hx hb dX7_isAsMade_3 rfl hl (by decide) rfl (fun ls hl => ?_)
  obtain ⟨I5, u6, hI, hst7⟩ := hw
  have L10 : ∀ (n : Nat) (v2_1 : Int32) (v3_2 : Int32) (T3 : St), I5 (v2_1, v3_2) T3 → u6 (v2_1, v3_2) T3 < n → ∀ (H : Heap) (locs : List Loc), va_P G.1 sc_cl (wd G T3) H → va_S (SA G) s.heap H locs → ∀ ls : Array Slot, lv_has ls 4 [(3, .int v3_2), (2, .int v2_1), (0, .ref (G.2.2 130)), (1, .int a1)] → W p l e { frames := 0, cells := 0, slots := 0, locals := 0 } s m ([.ref (G.2.2 130), .int a1] : List Value).toArray below meth c H locs 0 0 (MQ below (va_Qi post (Sy G) (SA G)) ([.ref (G.2.2 130), .int a1] : List Value).toArray s 0 0 (SA G)) (F0 m 4 ls []) := by
    intro n
    induction n with
    | zero => intro _ _ _ _ h; exact absurd h (Nat.not_lt_zero _)
    | succ n ih8 =>
      intro v2_1 v3_2 T3 hI hlt9 H locs hP hS ls hl
      have hw := hst7 (v2_1, v3_2) T3 hI
      unfold wb_X7_isAsMade_4 at hw
      refine lv_iload_n hx hb dX7_isAsMade_4 rfl (lv_at hl 0 rfl) ?_
      refine lv_sipush (v := 256) hx hb dX7_isAsMade_5 (by decide) ?_
      refine lv_icmp_ge (tgt := 63) hx hb dX7_isAsMade_8 (by decide) (fun hc11 => ?_) (fun hc11 => ?_)
      · have hw := hw.1 hc11
        refine lv_iload_n hx hb dX7_isAsMade_63 rfl (lv_at hl 1 rfl) ?_
        exact sy_zret C hr hlocks hP hS hw.1 hw.2 dX7_isAsMade_64
      · have hw := hw.2 hc11
        refine lv_iload_n hx hb dX7_isAsMade_11 rfl (lv_at hl 1 rfl) ?_
        refine lv_if_eq (tgt := 55) hx hb dX7_isAsMade_12 (by decide) (fun hc12 => ?_) (fun hc12 => ?_)
        · have hw := hw.1 hc12
          refine lv_iconst (v := 0) hx hb dX7_isAsMade_55 (by decide) ?_
          refine lv_istore_n (lv' := [(2, .int 0), (3, .int v3_2), (0, .ref (G.2.2 130)), (1, .int a1)]) hx hb dX7_isAsMade_56 rfl hl (by decide) rfl (fun ls hl => ?_)
          refine lv_iinc (v := v3_2 + 1) (lv' := [(3, .int (v3_2 + 1)), (2, .int 0), (0, .ref (G.2.2 130)), (1, .int a1)]) hx hb dX7_isAsMade_57 hl (k := 1) rfl rfl (by decide) rfl (fun ls hl => ?_)
          refine lv_goto (tgt := 4) hx hb dX7_isAsMade_60 (by decide) ?_
          exact ih8 _ _ _ hw.1 (Nat.lt_of_lt_of_le hw.2 (Nat.le_of_lt_succ hlt9)) _ _ hP hS ls (lv_sub hl [0, 1, 2, 3] rfl)
        · have hw := hw.2 hc12
          refine lv_aload_n hx hb dX7_isAsMade_15 rfl (lv_at hl 2 rfl) ?_
          refine gf_X7_38 C hP (o := 130) rfl dX7_isAsMade_16 ?_
          refine lv_sipush (v := 256) hx hb dX7_isAsMade_19 (by decide) ?_
          refine lv_iload_n hx hb dX7_isAsMade_22 rfl (lv_at hl 3 rfl) ?_
          refine lv_imul hx hb dX7_isAsMade_23 ?_
          refine lv_iload_n hx hb dX7_isAsMade_24 rfl (lv_at hl 0 rfl) ?_
          refine lv_iadd hx hb dX7_isAsMade_25 ?_
          obtain ⟨hn13, hw⟩ := hw
          refine sy_zald C hP (o := 140) rfl rfl hn13 dX7_isAsMade_26 ?_
          refine lv_if_eq (tgt := 51) hx hb dX7_isAsMade_27 (by decide) (fun hc14 => ?_) (fun hc14 => ?_)
          · have hw := hw.1 hc14
            refine lv_iconst (v := 1) hx hb dX7_isAsMade_51 (by decide) ?_
            refine lv_goto (tgt := 56) hx hb dX7_isAsMade_52 (by decide) ?_
            refine lv_istore_n (lv' := [(2, .int 1), (3, .int v3_2), (0, .ref (G.2.2 130)), (1, .int a1)]) hx hb dX7_isAsMade_56 rfl hl (by decide) rfl (fun ls hl => ?_)
            refine lv_iinc (v := v3_2 + 1) (lv' := [(3, .int (v3_2 + 1)), (2, .int 1), (0, .ref (G.2.2 130)), (1, .int a1)]) hx hb dX7_isAsMade_57 hl (k := 1) rfl rfl (by decide) rfl (fun ls hl => ?_)
            refine lv_goto (tgt := 4) hx hb dX7_isAsMade_60 (by decide) ?_
            exact ih8 _ _ _ hw.1 (Nat.lt_of_lt_of_le hw.2 (Nat.le_of_lt_succ hlt9)) _ _ hP hS ls (lv_sub hl [0, 1, 2, 3] rfl)
          · have hw := hw.2 hc14
            refine lv_aload_n hx hb dX7_isAsMade_30 rfl (lv_at hl 2 rfl) ?_
            refine gf_X7_41 C hP (o := 130) rfl dX7_isAsMade_31 ?_
            refine lv_sipush (v := 256) hx hb dX7_isAsMade_34 (by decide) ?_
            refine lv_iload_n hx hb dX7_isAsMade_37 rfl (lv_at hl 3 rfl) ?_
            refine lv_imul hx hb dX7_isAsMade_38 ?_
            refine lv_iload_n hx hb dX7_isAsMade_39 rfl (lv_at hl 0 rfl) ?_
            refine lv_iadd hx hb dX7_isAsMade_40 ?_
            obtain ⟨hn15, hw⟩ := hw
            refine sy_iald C hP (o := 141) rfl rfl hn15 dX7_isAsMade_41 ?_
            refine lv_aload_n hx hb dX7_isAsMade_42 rfl (lv_at hl 2 rfl) ?_
            refine gf_X7_7 C hP (o := 130) rfl dX7_isAsMade_43 ?_
            refine lv_iload_n hx hb dX7_isAsMade_46 rfl (lv_at hl 0 rfl) ?_
            obtain ⟨hn16, hw⟩ := hw
            refine sy_iald C hP (o := 131) rfl rfl hn16 dX7_isAsMade_47 ?_
            refine lv_icmp_ne (tgt := 55) hx hb dX7_isAsMade_48 (by decide) (fun hc17 => ?_) (fun hc17 => ?_)
            · have hw := hw.1 hc17
              refine lv_iconst (v := 0) hx hb dX7_isAsMade_55 (by decide) ?_
              refine lv_istore_n (lv' := [(2, .int 0), (3, .int v3_2), (0, .ref (G.2.2 130)), (1, .int a1)]) hx hb dX7_isAsMade_56 rfl hl (by decide) rfl (fun ls hl => ?_)
              refine lv_iinc (v := v3_2 + 1) (lv' := [(3, .int (v3_2 + 1)), (2, .int 0), (0, .ref (G.2.2 130)), (1, .int a1)]) hx hb dX7_isAsMade_57 hl (k := 1) rfl rfl (by decide) rfl (fun ls hl => ?_)
              refine lv_goto (tgt := 4) hx hb dX7_isAsMade_60 (by decide) ?_
              exact ih8 _ _ _ hw.1 (Nat.lt_of_lt_of_le hw.2 (Nat.le_of_lt_succ hlt9)) _ _ hP hS ls (lv_sub hl [0, 1, 2, 3] rfl)
            · have hw := hw.2 hc17
              refine lv_iconst (v := 1) hx hb dX7_isAsMade_51 (by decide) ?_
              refine lv_goto (tgt := 56) hx hb dX7_isAsMade_52 (by decide) ?_
              refine lv_istore_n (lv' := [(2, .int 1), (3, .int v3_2), (0, .ref (G.2.2 130)), (1, .int a1)]) hx hb dX7_isAsMade_56 rfl hl (by decide) rfl (fun ls hl => ?_)
              refine lv_iinc (v := v3_2 + 1) (lv' := [(3, .int (v3_2 + 1)), (2, .int 1), (0, .ref (G.2.2 130)), (1, .int a1)]) hx hb dX7_isAsMade_57 hl (k := 1) rfl rfl (by decide) rfl (fun ls hl => ?_)
              refine lv_goto (tgt := 4) hx hb dX7_isAsMade_60 (by decide) ?_
              exact ih8 _ _ _ hw.1 (Nat.lt_of_lt_of_le hw.2 (Nat.le_of_lt_succ hlt9)) _ _ hP hS ls (lv_sub hl [0, 1, 2, 3] rfl)
  exact L10 _ _ _ _ hI (Nat.lt_succ_self _) _ _ hP hS ls (lv_sub hl [0, 1, 2, 3] rfl)
theorem mw_X7_returned : MW yX7_returned cX7_returned 5 (some .int) 0 := ⟨w_992, w_8, by decide +kernel⟩
def wb_X7_returned_96 (v2_12 : Int32) (v3_13 : Int32) (k15 : (Int32 × Int32) → St → Prop) (k34 : (Int32) → St → Prop) (v4_32 : Int32) (T33 : St) (post : Int32 → St → Prop) : Prop :=
 ((256 * v3_13) + 256 ≤ v4_32 → vp_in v3_13 10 ∧ (vp_in v3_13 10 ∧ (k15 (v2_12 + 1, v3_13 + 1) (sv (sv T33 133 (v3_13.toNatClampNeg) (vp_nar .boolean 1)) 138 (v3_13.toNatClampNeg) (vp_nar .boolean 0))))) ∧ (¬ (256 * v3_13) + 256 ≤ v4_32 → vp_in v4_32 2560 ∧ (vp_in v4_32 2560 ∧ (vp_in v4_32 2560 ∧ (vp_in v4_32 2560 ∧ (∀ T48 : St, T48 = sv (sv T33 134 (v4_32.toNatClampNeg) (vp_nar .boolean (T33.1 139 v4_32.toNatClampNeg))) 135 (v4_32.toNatClampNeg) (vp_nar .boolean ((sv T33 134 (v4_32.toNatClampNeg) (vp_nar .boolean (T33.1 139 v4_32.toNatClampNeg))).1 140 v4_32.toNatClampNeg)) → (vp_in v4_32 2560 ∧ (vp_in v4_32 2560 ∧ (k34 (v4_32 + 1) (sv T48 136 (v4_32.toNatClampNeg) (T48.1 141 v4_32.toNatClampNeg))))))))))
def wb_X7_returned_45 (v1_1 : Int32) (k15 : (Int32 × Int32) → St → Prop) (v2_12 : Int32) (v3_13 : Int32) (T14 : St) (post : Int32 → St → Prop) : Prop :=
 (T14.1 130 2 ≤ v3_13 → post (v1_1 + (100 * v2_12)) (sv T14 130 16 ((T14.1 130 16) + v2_12))) ∧ (¬ T14.1 130 2 ≤ v3_13 → vp_in v3_13 10 ∧ ((T14.1 138 v3_13.toNatClampNeg = 0 → k15 (v2_12, v3_13 + 1) T14) ∧ (¬ T14.1 138 v3_13.toNatClampNeg = 0 → vp_in v3_13 10 ∧ ((¬ T14.1 133 v3_13.toNatClampNeg = 0 → k15 (v2_12, v3_13 + 1) T14) ∧ (T14.1 133 v3_13.toNatClampNeg = 0 → vp_in v3_13 10 ∧ ((3 ≤ T14.1 137 v3_13.toNatClampNeg → k15 (v2_12, v3_13 + 1) T14) ∧ (¬ 3 ≤ T14.1 137 v3_13.toNatClampNeg → wp_X7_isAsMade v3_13 T14 (fun r30 T29 => (r30 = 0 → k15 (v2_12, v3_13 + 1) T29) ∧ (¬ r30 = 0 → LW (fun kl (vl : Int32) Tl => wb_X7_returned_96 v2_12 v3_13 k15 kl vl Tl post) (256 * v3_13) T29)))))))))
def wb_X7_returned_4  (k4 : (Int32 × Int32) → St → Prop) (v1_1 : Int32) (v2_2 : Int32) (T3 : St) (post : Int32 → St → Prop) : Prop :=
 (256 ≤ v2_2 → LW (fun kl (vl : Int32 × Int32) Tl => wb_X7_returned_45 v1_1 kl vl.1 vl.2 Tl post) (0, 0) T3) ∧ (¬ 256 ≤ v2_2 → vp_in v2_2 256 ∧ (wp_X7_becomes v2_2 (T3.1 144 v2_2.toNatClampNeg) T3 (fun r53 T52 => (r53 ≤ 0 → k4 (v1_1 + 0, v2_2 + 1) T52) ∧ (¬ r53 ≤ 0 → k4 (v1_1 + r53, v2_2 + 1) T52))))
def wp_X7_returned (T : St) (post : Int32 → St → Prop) : Prop :=
  LW (fun kl (vl : Int32 × Int32) Tl => wb_X7_returned_4 kl vl.1 vl.2 Tl post) (0, 0) T
set_option maxHeartbeats 4000000 in
set_option maxRecDepth 100000 in
theorem m_X7_returned (l : Launch) (G : Gm) (hi : Inj G)   (T : St) (post : Int32 → St → Prop) (hw : wp_X7_returned T post) : Mi l yX7_returned cX7_returned 5 (some .int) 2 48 G [.ref (G.2.2 130)] T post := by
  refine sy_head hi (by decide) (Nat.le_of_ble_eq_true rfl) (lv := [(0, .ref (G.2.2 130))]) rfl ?_
  intro p e s m below meth c C hr hlocks hP hS ls hl
  have C : Cx p s m _ c cX7_returned 5 RX7 G := C
  obtain ⟨hx, hb, hml, hown, hg, hK, hN, -⟩ := id C
  unfold wp_X7_returned at hw
  refine lv_iconst (v := 0) hx hb dX7_returned_0 (by decide) ?_
  refine lv_istore_n (lv' := [(1, .int 0), (0, .ref (G.2.2 130))]) hx hb dX7_returned_1 rfl hl (by decide) rfl (fun ls hl => ?_)
  refine lv_iconst (v := 0) hx hb dX7_returned_2 (by decide) ?_
  refine lv_istore_n (lv' := [(2, .int 0), (1, .int 0), (0, .ref (G.2.2 130))]) hx hb dX7_returned_3 rfl hl (by decide) rfl (fun ls hl => ?_)
  obtain ⟨I5, u6, hI, hst7⟩ := hw
  have L10 : ∀ (n : Nat) (v1_1 : Int32) (v2_2 : Int32) (T3 : St), I5 (v1_1, v2_2) T3 → u6 (v1_1, v2_2) T3 < n → ∀ (H : Heap) (locs : List Loc), va_P G.1 sc_cl (wd G T3) H → va_S (SA G) s.heap H locs → ∀ ls : Array Slot, lv_has ls 5 [(2, .int v2_2), (1, .int v1_1), (0, .ref (G.2.2 130))] → W p l e { frames := 2, cells := 0, slots := 0, locals := 48 } s m ([.ref (G.2.2 130)] : List Value).toArray below meth c H locs 0 0 (MQ below (va_Qi post (Sy G) (SA G)) ([.ref (G.2.2 130)] : List Value).toArray s 0 0 (SA G)) (F0 m 4 ls []) := by
    intro n
    induction n with
    | zero => intro _ _ _ _ h; exact absurd h (Nat.not_lt_zero _)
    | succ n ih8 =>
      intro v1_1 v2_2 T3 hI hlt9 H locs hP hS ls hl
      have hw := hst7 (v1_1, v2_2) T3 hI
      unfold wb_X7_returned_4 at hw
      refine lv_iload_n hx hb dX7_returned_4 rfl (lv_at hl 0 rfl) ?_
      refine lv_sipush (v := 256) hx hb dX7_returned_5 (by decide) ?_
      refine lv_icmp_ge (tgt := 41) hx hb dX7_returned_8 (by decide) (fun hc11 => ?_) (fun hc11 => ?_)
      · have hw := hw.1 hc11
        refine lv_iconst (v := 0) hx hb dX7_returned_41 (by decide) ?_
        refine lv_istore_n (lv' := [(2, .int 0), (1, .int v1_1), (0, .ref (G.2.2 130))]) hx hb dX7_returned_42 rfl hl (by decide) rfl (fun ls hl => ?_)
        refine lv_iconst (v := 0) hx hb dX7_returned_43 (by decide) ?_
        refine lv_istore_n (lv' := [(3, .int 0), (2, .int 0), (1, .int v1_1), (0, .ref (G.2.2 130))]) hx hb dX7_returned_44 rfl hl (by decide) rfl (fun ls hl => ?_)
        obtain ⟨I16, u17, hI, hst18⟩ := hw
        have L21 : ∀ (n : Nat) (v2_12 : Int32) (v3_13 : Int32) (T14 : St), I16 (v2_12, v3_13) T14 → u17 (v2_12, v3_13) T14 < n → ∀ (H : Heap) (locs : List Loc), va_P G.1 sc_cl (wd G T14) H → va_S (SA G) s.heap H locs → ∀ ls : Array Slot, lv_has ls 5 [(3, .int v3_13), (2, .int v2_12), (1, .int v1_1), (0, .ref (G.2.2 130))] → W p l e { frames := 2, cells := 0, slots := 0, locals := 48 } s m ([.ref (G.2.2 130)] : List Value).toArray below meth c H locs 0 0 (MQ below (va_Qi post (Sy G) (SA G)) ([.ref (G.2.2 130)] : List Value).toArray s 0 0 (SA G)) (F0 m 45 ls []) := by
          intro n
          induction n with
          | zero => intro _ _ _ _ h; exact absurd h (Nat.not_lt_zero _)
          | succ n ih19 =>
            intro v2_12 v3_13 T14 hI hlt20 H locs hP hS ls hl
            have hw := hst18 (v2_12, v3_13) T14 hI
            unfold wb_X7_returned_45 at hw
            refine lv_iload_n hx hb dX7_returned_45 rfl (lv_at hl 0 rfl) ?_
            refine lv_aload_n hx hb dX7_returned_46 rfl (lv_at hl 3 rfl) ?_
            refine gf_X7_75 C hP (o := 130) rfl dX7_returned_47 ?_
            refine lv_icmp_ge (tgt := 181) hx hb dX7_returned_50 (by decide) (fun hc22 => ?_) (fun hc22 => ?_)
            · have hw := hw.1 hc22
              refine lv_aload_n hx hb dX7_returned_181 rfl (lv_at hl 3 rfl) ?_
              refine lv_dup hx hb dX7_returned_182 rfl ?_
              refine gf_X7_191 C hP (o := 130) rfl dX7_returned_183 ?_
              refine lv_iload_n hx hb dX7_returned_186 rfl (lv_at hl 1 rfl) ?_
              refine lv_iadd hx hb dX7_returned_187 ?_
              refine pf_X7_191 C hP hS (fun _ h => h) (o := 130) rfl dX7_returned_188 (fun H locs hP hS => ?_)
              refine lv_iload_n hx hb dX7_returned_191 rfl (lv_at hl 2 rfl) ?_
              refine lv_bipush (v := 100) hx hb dX7_returned_192 (by decide) ?_
              refine lv_iload_n hx hb dX7_returned_194 rfl (lv_at hl 1 rfl) ?_
              refine lv_imul hx hb dX7_returned_195 ?_
              refine lv_iadd hx hb dX7_returned_196 ?_
              exact sy_iret C hr hlocks hP hS hw dX7_returned_197
            · have hw := hw.2 hc22
              refine lv_aload_n hx hb dX7_returned_53 rfl (lv_at hl 3 rfl) ?_
              refine gf_X7_32 C hP (o := 130) rfl dX7_returned_54 ?_
              refine lv_iload_n hx hb dX7_returned_57 rfl (lv_at hl 0 rfl) ?_
              obtain ⟨hn23, hw⟩ := hw
              refine sy_zald C hP (o := 138) rfl rfl hn23 dX7_returned_58 ?_
              refine lv_if_eq (tgt := 175) hx hb dX7_returned_59 (by decide) (fun hc24 => ?_) (fun hc24 => ?_)
              · have hw := hw.1 hc24
                refine lv_iinc (v := v3_13 + 1) (lv' := [(3, .int (v3_13 + 1)), (2, .int v2_12), (1, .int v1_1), (0, .ref (G.2.2 130))]) hx hb dX7_returned_175 hl (k := 0) rfl rfl (by decide) rfl (fun ls hl => ?_)
                refine lv_goto (tgt := 45) hx hb dX7_returned_178 (by decide) ?_
                exact ih19 _ _ _ hw.1 (Nat.lt_of_lt_of_le hw.2 (Nat.le_of_lt_succ hlt20)) _ _ hP hS ls (lv_sub hl [0, 1, 2, 3] rfl)
              · have hw := hw.2 hc24
                refine lv_aload_n hx hb dX7_returned_62 rfl (lv_at hl 3 rfl) ?_
                refine gf_X7_16 C hP (o := 130) rfl dX7_returned_63 ?_
                refine lv_iload_n hx hb dX7_returned_66 rfl (lv_at hl 0 rfl) ?_
                obtain ⟨hn25, hw⟩ := hw
                refine sy_zald C hP (o := 133) rfl rfl hn25 dX7_returned_67 ?_
                refine lv_if_ne (tgt := 175) hx hb dX7_returned_68 (by decide) (fun hc26 => ?_) (fun hc26 => ?_)
                · have hw := hw.1 hc26
                  refine lv_iinc (v := v3_13 + 1) (lv' := [(3, .int (v3_13 + 1)), (2, .int v2_12), (1, .int v1_1), (0, .ref (G.2.2 130))]) hx hb dX7_returned_175 hl (k := 0) rfl rfl (by decide) rfl (fun ls hl => ?_)
                  refine lv_goto (tgt := 45) hx hb dX7_returned_178 (by decide) ?_
                  exact ih19 _ _ _ hw.1 (Nat.lt_of_lt_of_le hw.2 (Nat.le_of_lt_succ hlt20)) _ _ hP hS ls (lv_sub hl [0, 1, 2, 3] rfl)
                · have hw := hw.2 hc26
                  refine lv_aload_n hx hb dX7_returned_71 rfl (lv_at hl 3 rfl) ?_
                  refine gf_X7_29 C hP (o := 130) rfl dX7_returned_72 ?_
                  refine lv_iload_n hx hb dX7_returned_75 rfl (lv_at hl 0 rfl) ?_
                  obtain ⟨hn27, hw⟩ := hw
                  refine sy_iald C hP (o := 137) rfl rfl hn27 dX7_returned_76 ?_
                  refine lv_iconst (v := 3) hx hb dX7_returned_77 (by decide) ?_
                  refine lv_icmp_ge (tgt := 175) hx hb dX7_returned_78 (by decide) (fun hc28 => ?_) (fun hc28 => ?_)
                  · have hw := hw.1 hc28
                    refine lv_iinc (v := v3_13 + 1) (lv' := [(3, .int (v3_13 + 1)), (2, .int v2_12), (1, .int v1_1), (0, .ref (G.2.2 130))]) hx hb dX7_returned_175 hl (k := 0) rfl rfl (by decide) rfl (fun ls hl => ?_)
                    refine lv_goto (tgt := 45) hx hb dX7_returned_178 (by decide) ?_
                    exact ih19 _ _ _ hw.1 (Nat.lt_of_lt_of_le hw.2 (Nat.le_of_lt_succ hlt20)) _ _ hP hS ls (lv_sub hl [0, 1, 2, 3] rfl)
                  · have hw := hw.2 hc28
                    refine lv_aload_n hx hb dX7_returned_81 rfl (lv_at hl 3 rfl) ?_
                    refine lv_iload_n hx hb dX7_returned_82 rfl (lv_at hl 0 rfl) ?_
                    refine sy_goi (sy_runV C hP rfl rfl (m_X7_isAsMade l G hi _ _ _ hw) mw_X7_isAsMade w_995 ws_40 w_993 (rest := []) rfl hl.1 rfl (Nat.le_of_ble_eq_true rfl) ⟨Nat.le_of_ble_eq_true rfl, Nat.le_of_ble_eq_true rfl⟩ dX7_returned_83 ⟨Nat.zero_le _, Nat.zero_le _⟩) hS (fun _ h => h) (fun r30 T29 H locs hw hP hS => ?_)
                    refine lv_if_eq (tgt := 175) hx hb dX7_returned_86 (by decide) (fun hc31 => ?_) (fun hc31 => ?_)
                    · have hw := hw.1 hc31
                      refine lv_iinc (v := v3_13 + 1) (lv' := [(3, .int (v3_13 + 1)), (2, .int v2_12), (1, .int v1_1), (0, .ref (G.2.2 130))]) hx hb dX7_returned_175 hl (k := 0) rfl rfl (by decide) rfl (fun ls hl => ?_)
                      refine lv_goto (tgt := 45) hx hb dX7_returned_178 (by decide) ?_
                      exact ih19 _ _ _ hw.1 (Nat.lt_of_lt_of_le hw.2 (Nat.le_of_lt_succ hlt20)) _ _ hP hS ls (lv_sub hl [0, 1, 2, 3] rfl)
                    · have hw := hw.2 hc31
                      refine lv_sipush (v := 256) hx hb dX7_returned_89 (by decide) ?_
                      refine lv_iload_n hx hb dX7_returned_92 rfl (lv_at hl 0 rfl) ?_
                      refine lv_imul hx hb dX7_returned_93 ?_
                      refine lv_istore (lv' := [(4, .int (256 * v3_13)), (3, .int v3_13), (2, .int v2_12), (1, .int v1_1), (0, .ref (G.2.2 130))]) hx hb dX7_returned_94 hl (by decide) rfl (fun ls hl => ?_)
                      obtain ⟨I35, u36, hI, hst37⟩ := hw
                      have L40 : ∀ (n : Nat) (v4_32 : Int32) (T33 : St), I35 v4_32 T33 → u36 v4_32 T33 < n → ∀ (H : Heap) (locs : List Loc), va_P G.1 sc_cl (wd G T33) H → va_S (SA G) s.heap H locs → ∀ ls : Array Slot, lv_has ls 5 [(4, .int v4_32), (3, .int v3_13), (2, .int v2_12), (1, .int v1_1), (0, .ref (G.2.2 130))] → W p l e { frames := 2, cells := 0, slots := 0, locals := 48 } s m ([.ref (G.2.2 130)] : List Value).toArray below meth c H locs 0 0 (MQ below (va_Qi post (Sy G) (SA G)) ([.ref (G.2.2 130)] : List Value).toArray s 0 0 (SA G)) (F0 m 96 ls []) := by
                        intro n
                        induction n with
                        | zero => intro _ _ _ h; exact absurd h (Nat.not_lt_zero _)
                        | succ n ih38 =>
                          intro v4_32 T33 hI hlt39 H locs hP hS ls hl
                          have hw := hst37 v4_32 T33 hI
                          unfold wb_X7_returned_96 at hw
                          refine lv_iload hx hb dX7_returned_96 (lv_at hl 0 rfl) ?_
                          refine lv_sipush (v := 256) hx hb dX7_returned_98 (by decide) ?_
                          refine lv_iload_n hx hb dX7_returned_101 rfl (lv_at hl 1 rfl) ?_
                          refine lv_imul hx hb dX7_returned_102 ?_
                          refine lv_sipush (v := 256) hx hb dX7_returned_103 (by decide) ?_
                          refine lv_iadd hx hb dX7_returned_106 ?_
                          refine lv_icmp_ge (tgt := 158) hx hb dX7_returned_107 (by decide) (fun hc41 => ?_) (fun hc41 => ?_)
                          · have hw := hw.1 hc41
                            refine lv_aload_n hx hb dX7_returned_158 rfl (lv_at hl 4 rfl) ?_
                            refine gf_X7_16 C hP (o := 130) rfl dX7_returned_159 ?_
                            refine lv_iload_n hx hb dX7_returned_162 rfl (lv_at hl 1 rfl) ?_
                            refine lv_iconst (v := 1) hx hb dX7_returned_163 (by decide) ?_
                            obtain ⟨hn42, hw⟩ := hw
                            refine sy_zast C hP hS (fun _ h => h) (o := 133) rfl rfl hn42 dX7_returned_164 (fun H locs hP hS => ?_)
                            refine lv_aload_n hx hb dX7_returned_165 rfl (lv_at hl 4 rfl) ?_
                            refine gf_X7_32 C hP (o := 130) rfl dX7_returned_166 ?_
                            refine lv_iload_n hx hb dX7_returned_169 rfl (lv_at hl 1 rfl) ?_
                            refine lv_iconst (v := 0) hx hb dX7_returned_170 (by decide) ?_
                            obtain ⟨hn43, hw⟩ := hw
                            refine sy_zast C hP hS (fun _ h => h) (o := 138) rfl rfl hn43 dX7_returned_171 (fun H locs hP hS => ?_)
                            refine lv_iinc (v := v2_12 + 1) (lv' := [(2, .int (v2_12 + 1)), (4, .int v4_32), (3, .int v3_13), (1, .int v1_1), (0, .ref (G.2.2 130))]) hx hb dX7_returned_172 hl (k := 2) rfl rfl (by decide) rfl (fun ls hl => ?_)
                            refine lv_iinc (v := v3_13 + 1) (lv' := [(3, .int (v3_13 + 1)), (2, .int (v2_12 + 1)), (4, .int v4_32), (1, .int v1_1), (0, .ref (G.2.2 130))]) hx hb dX7_returned_175 hl (k := 2) rfl rfl (by decide) rfl (fun ls hl => ?_)
                            refine lv_goto (tgt := 45) hx hb dX7_returned_178 (by decide) ?_
                            exact ih19 _ _ _ hw.1 (Nat.lt_of_lt_of_le hw.2 (Nat.le_of_lt_succ hlt20)) _ _ hP hS ls (lv_sub hl [0, 1, 3, 4] rfl)
                          · have hw := hw.2 hc41
                            refine lv_aload_n hx hb dX7_returned_110 rfl (lv_at hl 4 rfl) ?_
                            refine gf_X7_20 C hP (o := 130) rfl dX7_returned_111 ?_
                            refine lv_iload hx hb dX7_returned_114 (lv_at hl 0 rfl) ?_
                            refine lv_aload_n hx hb dX7_returned_116 rfl (lv_at hl 4 rfl) ?_
                            refine gf_X7_35 C hP (o := 130) rfl dX7_returned_117 ?_
                            refine lv_iload hx hb dX7_returned_120 (lv_at hl 0 rfl) ?_
                            obtain ⟨hn44, hw⟩ := hw
                            refine sy_zald C hP (o := 139) rfl rfl hn44 dX7_returned_122 ?_
                            obtain ⟨hn45, hw⟩ := hw
                            refine sy_zast C hP hS (fun _ h => h) (o := 134) rfl rfl hn45 dX7_returned_123 (fun H locs hP hS => ?_)
                            refine lv_aload_n hx hb dX7_returned_124 rfl (lv_at hl 4 rfl) ?_
                            refine gf_X7_23 C hP (o := 130) rfl dX7_returned_125 ?_
                            refine lv_iload hx hb dX7_returned_128 (lv_at hl 0 rfl) ?_
                            refine lv_aload_n hx hb dX7_returned_130 rfl (lv_at hl 4 rfl) ?_
                            refine gf_X7_38 C hP (o := 130) rfl dX7_returned_131 ?_
                            refine lv_iload hx hb dX7_returned_134 (lv_at hl 0 rfl) ?_
                            obtain ⟨hn46, hw⟩ := hw
                            refine sy_zald C hP (o := 140) rfl rfl hn46 dX7_returned_136 ?_
                            obtain ⟨hn47, hw⟩ := hw
                            refine sy_zast C hP hS (fun _ h => h) (o := 135) rfl rfl hn47 dX7_returned_137 (fun H locs hP hS => ?_)
                            obtain ⟨T48, eT48, hP⟩ := nameT (P := fun T => va_P G.1 sc_cl (wd G T) H) hP
                            have hw := hw T48 eT48
                            refine lv_aload_n hx hb dX7_returned_138 rfl (lv_at hl 4 rfl) ?_
                            refine gf_X7_26 C hP (o := 130) rfl dX7_returned_139 ?_
                            refine lv_iload hx hb dX7_returned_142 (lv_at hl 0 rfl) ?_
                            refine lv_aload_n hx hb dX7_returned_144 rfl (lv_at hl 4 rfl) ?_
                            refine gf_X7_41 C hP (o := 130) rfl dX7_returned_145 ?_
                            refine lv_iload hx hb dX7_returned_148 (lv_at hl 0 rfl) ?_
                            obtain ⟨hn49, hw⟩ := hw
                            refine sy_iald C hP (o := 141) rfl rfl hn49 dX7_returned_150 ?_
                            obtain ⟨hn50, hw⟩ := hw
                            refine sy_iast C hP hS (fun _ h => h) (o := 136) rfl rfl hn50 dX7_returned_151 (fun H locs hP hS => ?_)
                            refine lv_iinc (v := v4_32 + 1) (lv' := [(4, .int (v4_32 + 1)), (3, .int v3_13), (2, .int v2_12), (1, .int v1_1), (0, .ref (G.2.2 130))]) hx hb dX7_returned_152 hl (k := 0) rfl rfl (by decide) rfl (fun ls hl => ?_)
                            refine lv_goto (tgt := 96) hx hb dX7_returned_155 (by decide) ?_
                            exact ih38 _ _ hw.1 (Nat.lt_of_lt_of_le hw.2 (Nat.le_of_lt_succ hlt39)) _ _ hP hS ls (lv_sub hl [0, 1, 2, 3, 4] rfl)
                      exact L40 _ _ _ hI (Nat.lt_succ_self _) _ _ hP hS ls (lv_sub hl [0, 1, 2, 3, 4] rfl)
        exact L21 _ _ _ _ hI (Nat.lt_succ_self _) _ _ hP hS ls (lv_sub hl [0, 1, 2, 3] rfl)
      · have hw := hw.2 hc11
        refine lv_aload_n hx hb dX7_returned_11 rfl (lv_at hl 2 rfl) ?_
        refine lv_iload_n hx hb dX7_returned_12 rfl (lv_at hl 0 rfl) ?_
        refine lv_aload_n hx hb dX7_returned_13 rfl (lv_at hl 2 rfl) ?_
        refine gf_X7_50 C hP (o := 130) rfl dX7_returned_14 ?_
        refine lv_iload_n hx hb dX7_returned_17 rfl (lv_at hl 0 rfl) ?_
        obtain ⟨hn51, hw⟩ := hw
        refine sy_iald C hP (o := 144) rfl rfl hn51 dX7_returned_18 ?_
        refine sy_goi (sy_runV C hP rfl rfl (m_X7_becomes l G hi _ _ _ _ hw) mw_X7_becomes w_883 ws_26 w_881 (rest := []) rfl hl.1 rfl (Nat.le_of_ble_eq_true rfl) ⟨Nat.le_of_ble_eq_true rfl, Nat.le_of_ble_eq_true rfl⟩ dX7_returned_19 ⟨Nat.zero_le _, Nat.zero_le _⟩) hS (fun _ h => h) (fun r53 T52 H locs hw hP hS => ?_)
        refine lv_istore_n (lv' := [(3, .int r53), (2, .int v2_2), (1, .int v1_1), (0, .ref (G.2.2 130))]) hx hb dX7_returned_22 rfl hl (by decide) rfl (fun ls hl => ?_)
        refine lv_iload_n hx hb dX7_returned_23 rfl (lv_at hl 2 rfl) ?_
        refine lv_iload_n hx hb dX7_returned_24 rfl (lv_at hl 0 rfl) ?_
        refine lv_if_le (tgt := 32) hx hb dX7_returned_25 (by decide) (fun hc54 => ?_) (fun hc54 => ?_)
        · have hw := hw.1 hc54
          refine lv_iconst (v := 0) hx hb dX7_returned_32 (by decide) ?_
          refine lv_iadd hx hb dX7_returned_33 ?_
          refine lv_istore_n (lv' := [(1, .int (v1_1 + 0)), (3, .int r53), (2, .int v2_2), (0, .ref (G.2.2 130))]) hx hb dX7_returned_34 rfl hl (by decide) rfl (fun ls hl => ?_)
          refine lv_iinc (v := v2_2 + 1) (lv' := [(2, .int (v2_2 + 1)), (1, .int (v1_1 + 0)), (3, .int r53), (0, .ref (G.2.2 130))]) hx hb dX7_returned_35 hl (k := 2) rfl rfl (by decide) rfl (fun ls hl => ?_)
          refine lv_goto (tgt := 4) hx hb dX7_returned_38 (by decide) ?_
          exact ih8 _ _ _ hw.1 (Nat.lt_of_lt_of_le hw.2 (Nat.le_of_lt_succ hlt9)) _ _ hP hS ls (lv_sub hl [0, 1, 3] rfl)
        · have hw := hw.2 hc54
          refine lv_iload_n hx hb dX7_returned_28 rfl (lv_at hl 0 rfl) ?_
          refine lv_goto (tgt := 33) hx hb dX7_returned_29 (by decide) ?_
          refine lv_iadd hx hb dX7_returned_33 ?_
          refine lv_istore_n (lv' := [(1, .int (v1_1 + r53)), (3, .int r53), (2, .int v2_2), (0, .ref (G.2.2 130))]) hx hb dX7_returned_34 rfl hl (by decide) rfl (fun ls hl => ?_)
          refine lv_iinc (v := v2_2 + 1) (lv' := [(2, .int (v2_2 + 1)), (1, .int (v1_1 + r53)), (3, .int r53), (0, .ref (G.2.2 130))]) hx hb dX7_returned_35 hl (k := 2) rfl rfl (by decide) rfl (fun ls hl => ?_)
          refine lv_goto (tgt := 4) hx hb dX7_returned_38 (by decide) ?_
          exact ih8 _ _ _ hw.1 (Nat.lt_of_lt_of_le hw.2 (Nat.le_of_lt_succ hlt9)) _ _ hP hS ls (lv_sub hl [0, 1, 3] rfl)
  exact L10 _ _ _ _ hI (Nat.lt_succ_self _) _ _ hP hS ls (lv_sub hl [0, 1, 2] rfl)
theorem mw_X7_restore : MW yX7_restore cX7_restore 3 (some .int) 1 := ⟨w_988, w_8, by decide +kernel⟩
def wb_X7_restore_23 (a1 : Int32) (k6 : (Int32) → St → Prop) (v2_4 : Int32) (T5 : St) (post : Int32 → St → Prop) : Prop :=
 (256 ≤ v2_4 → wp_X7_returned T5 (fun r15 T14 => post r15 T14)) ∧ (¬ 256 ≤ v2_4 → vp_in ((256 * a1) + v2_4) 1024 ∧ (vp_in v2_4 256 ∧ (k6 (v2_4 + 1) (sv T5 144 (v2_4.toNatClampNeg) (T5.1 142 ((256 * a1) + v2_4).toNatClampNeg)))))
def wp_X7_restore (a1 : Int32) (T : St) (post : Int32 → St → Prop) : Prop :=
  wp_X7_in a1 0 (((sv T 130 0 0).1 130 19) - 1) (sv T 130 0 0) (fun r2 T1 => (¬ r2 = 0 → LW (fun kl (vl : Int32) Tl => wb_X7_restore_23 a1 kl vl Tl post) 0 T1) ∧ (r2 = 0 → post (-1) T1))
set_option maxHeartbeats 4000000 in
set_option maxRecDepth 100000 in
theorem m_X7_restore (l : Launch) (G : Gm) (hi : Inj G) (a1 : Int32)  (T : St) (post : Int32 → St → Prop) (hw : wp_X7_restore a1 T post) : Mi l yX7_restore cX7_restore 3 (some .int) 3 72 G [.ref (G.2.2 130), .int a1] T post := by
  refine sy_head hi (by decide) (Nat.le_of_ble_eq_true rfl) (lv := [(0, .ref (G.2.2 130)), (1, .int a1)]) rfl ?_
  intro p e s m below meth c C hr hlocks hP hS ls hl
  have C : Cx p s m _ c cX7_restore 3 RX7 G := C
  obtain ⟨hx, hb, hml, hown, hg, hK, hN, -⟩ := id C
  unfold wp_X7_restore at hw
  refine lv_aload_n hx hb dX7_restore_0 rfl (lv_at hl 0 rfl) ?_
  refine lv_iconst (v := 0) hx hb dX7_restore_1 (by decide) ?_
  refine pf_X7_71 C hP hS (fun _ h => h) (o := 130) rfl dX7_restore_2 (fun H locs hP hS => ?_)
  refine lv_iload_n hx hb dX7_restore_5 rfl (lv_at hl 1 rfl) ?_
  refine lv_iconst (v := 0) hx hb dX7_restore_6 (by decide) ?_
  refine lv_aload_n hx hb dX7_restore_7 rfl (lv_at hl 0 rfl) ?_
  refine gf_X7_185 C hP (o := 130) rfl dX7_restore_8 ?_
  refine lv_iconst (v := 1) hx hb dX7_restore_11 (by decide) ?_
  refine lv_isub hx hb dX7_restore_12 ?_
  refine sy_goi (sy_runS C hP (m_X7_in l G hi _ _ _ _ _ hw) mw_X7_in w_874 w_873 (rest := []) rfl hl.1 rfl (Nat.le_of_ble_eq_true rfl) ⟨Nat.le_of_ble_eq_true rfl, Nat.le_of_ble_eq_true rfl⟩ dX7_restore_13 ⟨Nat.zero_le _, Nat.zero_le _⟩) hS (fun _ h => h) (fun r2 T1 H locs hw hP hS => ?_)
  refine lv_if_ne (tgt := 21) hx hb dX7_restore_16 (by decide) (fun hc3 => ?_) (fun hc3 => ?_)
  · have hw := hw.1 hc3
    refine lv_iconst (v := 0) hx hb dX7_restore_21 (by decide) ?_
    refine lv_istore_n (lv' := [(2, .int 0), (0, .ref (G.2.2 130)), (1, .int a1)]) hx hb dX7_restore_22 rfl hl (by decide) rfl (fun ls hl => ?_)
    obtain ⟨I7, u8, hI, hst9⟩ := hw
    have L12 : ∀ (n : Nat) (v2_4 : Int32) (T5 : St), I7 v2_4 T5 → u8 v2_4 T5 < n → ∀ (H : Heap) (locs : List Loc), va_P G.1 sc_cl (wd G T5) H → va_S (SA G) s.heap H locs → ∀ ls : Array Slot, lv_has ls 3 [(2, .int v2_4), (0, .ref (G.2.2 130)), (1, .int a1)] → W p l e { frames := 3, cells := 0, slots := 0, locals := 72 } s m ([.ref (G.2.2 130), .int a1] : List Value).toArray below meth c H locs 0 0 (MQ below (va_Qi post (Sy G) (SA G)) ([.ref (G.2.2 130), .int a1] : List Value).toArray s 0 0 (SA G)) (F0 m 23 ls []) := by
      intro n
      induction n with
      | zero => intro _ _ _ h; exact absurd h (Nat.not_lt_zero _)
      | succ n ih10 =>
        intro v2_4 T5 hI hlt11 H locs hP hS ls hl
        have hw := hst9 v2_4 T5 hI
        unfold wb_X7_restore_23 at hw
        refine lv_iload_n hx hb dX7_restore_23 rfl (lv_at hl 0 rfl) ?_
        refine lv_sipush (v := 256) hx hb dX7_restore_24 (by decide) ?_
        refine lv_icmp_ge (tgt := 54) hx hb dX7_restore_27 (by decide) (fun hc13 => ?_) (fun hc13 => ?_)
        · have hw := hw.1 hc13
          refine lv_aload_n hx hb dX7_restore_54 rfl (lv_at hl 1 rfl) ?_
          refine sy_goi (sy_runV C hP rfl rfl (m_X7_returned l G hi  _ _ hw) mw_X7_returned w_991 ws_39 w_989 (rest := []) rfl hl.1 rfl (Nat.le_of_ble_eq_true rfl) ⟨Nat.le_of_ble_eq_true rfl, Nat.le_of_ble_eq_true rfl⟩ dX7_restore_55 ⟨Nat.zero_le _, Nat.zero_le _⟩) hS (fun _ h => h) (fun r15 T14 H locs hw hP hS => ?_)
          exact sy_iret C hr hlocks hP hS hw dX7_restore_58
        · have hw := hw.2 hc13
          refine lv_aload_n hx hb dX7_restore_30 rfl (lv_at hl 1 rfl) ?_
          refine gf_X7_50 C hP (o := 130) rfl dX7_restore_31 ?_
          refine lv_iload_n hx hb dX7_restore_34 rfl (lv_at hl 0 rfl) ?_
          refine lv_aload_n hx hb dX7_restore_35 rfl (lv_at hl 1 rfl) ?_
          refine gf_X7_44 C hP (o := 130) rfl dX7_restore_36 ?_
          refine lv_sipush (v := 256) hx hb dX7_restore_39 (by decide) ?_
          refine lv_iload_n hx hb dX7_restore_42 rfl (lv_at hl 2 rfl) ?_
          refine lv_imul hx hb dX7_restore_43 ?_
          refine lv_iload_n hx hb dX7_restore_44 rfl (lv_at hl 0 rfl) ?_
          refine lv_iadd hx hb dX7_restore_45 ?_
          obtain ⟨hn16, hw⟩ := hw
          refine sy_iald C hP (o := 142) rfl rfl hn16 dX7_restore_46 ?_
          obtain ⟨hn17, hw⟩ := hw
          refine sy_iast C hP hS (fun _ h => h) (o := 144) rfl rfl hn17 dX7_restore_47 (fun H locs hP hS => ?_)
          refine lv_iinc (v := v2_4 + 1) (lv' := [(2, .int (v2_4 + 1)), (0, .ref (G.2.2 130)), (1, .int a1)]) hx hb dX7_restore_48 hl (k := 0) rfl rfl (by decide) rfl (fun ls hl => ?_)
          refine lv_goto (tgt := 23) hx hb dX7_restore_51 (by decide) ?_
          exact ih10 _ _ hw.1 (Nat.lt_of_lt_of_le hw.2 (Nat.le_of_lt_succ hlt11)) _ _ hP hS ls (lv_sub hl [0, 1, 2] rfl)
    exact L12 _ _ _ hI (Nat.lt_succ_self _) _ _ hP hS ls (lv_sub hl [0, 1, 2] rfl)
  · have hw := hw.2 hc3
    refine lv_iconst (v := (-1)) hx hb dX7_restore_19 (by decide) ?_
    exact sy_iret C hr hlocks hP hS hw dX7_restore_20
theorem mw_X7_undo : MW yX7_undo cX7_undo 2 (some .int) 0 := ⟨w_1000, w_8, by decide +kernel⟩
def wb_X7_undo_27  (k4 : (Int32) → St → Prop) (v1_2 : Int32) (T3 : St) (post : Int32 → St → Prop) : Prop :=
 (256 ≤ v1_2 → wp_X7_returned T3 (fun r13 T12 => post r13 T12)) ∧ (¬ 256 ≤ v1_2 → vp_in ((256 * (T3.1 130 21)) + v1_2) 2048 ∧ (vp_in v1_2 256 ∧ (k4 (v1_2 + 1) (sv T3 144 (v1_2.toNatClampNeg) (T3.1 143 ((256 * (T3.1 130 21)) + v1_2).toNatClampNeg)))))
def wp_X7_undo (T : St) (post : Int32 → St → Prop) : Prop :=
  (¬ (sv T 130 0 0).1 130 21 = 0 → LW (fun kl (vl : Int32) Tl => wb_X7_undo_27 kl vl Tl post) 0 (sv (sv T 130 0 0) 130 21 (((sv T 130 0 0).1 130 21) - 1))) ∧ ((sv T 130 0 0).1 130 21 = 0 → post (-3) (sv T 130 0 0))
set_option maxHeartbeats 4000000 in
set_option maxRecDepth 100000 in
theorem m_X7_undo (l : Launch) (G : Gm) (hi : Inj G)   (T : St) (post : Int32 → St → Prop) (hw : wp_X7_undo T post) : Mi l yX7_undo cX7_undo 2 (some .int) 3 72 G [.ref (G.2.2 130)] T post := by
  refine sy_head hi (by decide) (Nat.le_of_ble_eq_true rfl) (lv := [(0, .ref (G.2.2 130))]) rfl ?_
  intro p e s m below meth c C hr hlocks hP hS ls hl
  have C : Cx p s m _ c cX7_undo 2 RX7 G := C
  obtain ⟨hx, hb, hml, hown, hg, hK, hN, -⟩ := id C
  unfold wp_X7_undo at hw
  refine lv_aload_n hx hb dX7_undo_0 rfl (lv_at hl 0 rfl) ?_
  refine lv_iconst (v := 0) hx hb dX7_undo_1 (by decide) ?_
  refine pf_X7_71 C hP hS (fun _ h => h) (o := 130) rfl dX7_undo_2 (fun H locs hP hS => ?_)
  refine lv_aload_n hx hb dX7_undo_5 rfl (lv_at hl 0 rfl) ?_
  refine gf_X7_96 C hP (o := 130) rfl dX7_undo_6 ?_
  refine lv_if_ne (tgt := 15) hx hb dX7_undo_9 (by decide) (fun hc1 => ?_) (fun hc1 => ?_)
  · have hw := hw.1 hc1
    refine lv_aload_n hx hb dX7_undo_15 rfl (lv_at hl 0 rfl) ?_
    refine lv_dup hx hb dX7_undo_16 rfl ?_
    refine gf_X7_96 C hP (o := 130) rfl dX7_undo_17 ?_
    refine lv_iconst (v := 1) hx hb dX7_undo_20 (by decide) ?_
    refine lv_isub hx hb dX7_undo_21 ?_
    refine pf_X7_96 C hP hS (fun _ h => h) (o := 130) rfl dX7_undo_22 (fun H locs hP hS => ?_)
    refine lv_iconst (v := 0) hx hb dX7_undo_25 (by decide) ?_
    refine lv_istore_n (lv' := [(1, .int 0), (0, .ref (G.2.2 130))]) hx hb dX7_undo_26 rfl hl (by decide) rfl (fun ls hl => ?_)
    obtain ⟨I5, u6, hI, hst7⟩ := hw
    have L10 : ∀ (n : Nat) (v1_2 : Int32) (T3 : St), I5 v1_2 T3 → u6 v1_2 T3 < n → ∀ (H : Heap) (locs : List Loc), va_P G.1 sc_cl (wd G T3) H → va_S (SA G) s.heap H locs → ∀ ls : Array Slot, lv_has ls 2 [(1, .int v1_2), (0, .ref (G.2.2 130))] → W p l e { frames := 3, cells := 0, slots := 0, locals := 72 } s m ([.ref (G.2.2 130)] : List Value).toArray below meth c H locs 0 0 (MQ below (va_Qi post (Sy G) (SA G)) ([.ref (G.2.2 130)] : List Value).toArray s 0 0 (SA G)) (F0 m 27 ls []) := by
      intro n
      induction n with
      | zero => intro _ _ _ h; exact absurd h (Nat.not_lt_zero _)
      | succ n ih8 =>
        intro v1_2 T3 hI hlt9 H locs hP hS ls hl
        have hw := hst7 v1_2 T3 hI
        unfold wb_X7_undo_27 at hw
        refine lv_iload_n hx hb dX7_undo_27 rfl (lv_at hl 0 rfl) ?_
        refine lv_sipush (v := 256) hx hb dX7_undo_28 (by decide) ?_
        refine lv_icmp_ge (tgt := 61) hx hb dX7_undo_31 (by decide) (fun hc11 => ?_) (fun hc11 => ?_)
        · have hw := hw.1 hc11
          refine lv_aload_n hx hb dX7_undo_61 rfl (lv_at hl 1 rfl) ?_
          refine sy_goi (sy_runV C hP rfl rfl (m_X7_returned l G hi  _ _ hw) mw_X7_returned w_991 ws_39 w_989 (rest := []) rfl hl.1 rfl (Nat.le_of_ble_eq_true rfl) ⟨Nat.le_of_ble_eq_true rfl, Nat.le_of_ble_eq_true rfl⟩ dX7_undo_62 ⟨Nat.zero_le _, Nat.zero_le _⟩) hS (fun _ h => h) (fun r13 T12 H locs hw hP hS => ?_)
          exact sy_iret C hr hlocks hP hS hw dX7_undo_65
        · have hw := hw.2 hc11
          refine lv_aload_n hx hb dX7_undo_34 rfl (lv_at hl 1 rfl) ?_
          refine gf_X7_50 C hP (o := 130) rfl dX7_undo_35 ?_
          refine lv_iload_n hx hb dX7_undo_38 rfl (lv_at hl 0 rfl) ?_
          refine lv_aload_n hx hb dX7_undo_39 rfl (lv_at hl 1 rfl) ?_
          refine gf_X7_47 C hP (o := 130) rfl dX7_undo_40 ?_
          refine lv_sipush (v := 256) hx hb dX7_undo_43 (by decide) ?_
          refine lv_aload_n hx hb dX7_undo_46 rfl (lv_at hl 1 rfl) ?_
          refine gf_X7_96 C hP (o := 130) rfl dX7_undo_47 ?_
          refine lv_imul hx hb dX7_undo_50 ?_
          refine lv_iload_n hx hb dX7_undo_51 rfl (lv_at hl 0 rfl) ?_
          refine lv_iadd hx hb dX7_undo_52 ?_
          obtain ⟨hn14, hw⟩ := hw
          refine sy_iald C hP (o := 143) rfl rfl hn14 dX7_undo_53 ?_
          obtain ⟨hn15, hw⟩ := hw
          refine sy_iast C hP hS (fun _ h => h) (o := 144) rfl rfl hn15 dX7_undo_54 (fun H locs hP hS => ?_)
          refine lv_iinc (v := v1_2 + 1) (lv' := [(1, .int (v1_2 + 1)), (0, .ref (G.2.2 130))]) hx hb dX7_undo_55 hl (k := 0) rfl rfl (by decide) rfl (fun ls hl => ?_)
          refine lv_goto (tgt := 27) hx hb dX7_undo_58 (by decide) ?_
          exact ih8 _ _ hw.1 (Nat.lt_of_lt_of_le hw.2 (Nat.le_of_lt_succ hlt9)) _ _ hP hS ls (lv_sub hl [0, 1] rfl)
    exact L10 _ _ _ hI (Nat.lt_succ_self _) _ _ hP hS ls (lv_sub hl [0, 1] rfl)
  · have hw := hw.2 hc1
    refine lv_bipush (v := (-3)) hx hb dX7_undo_12 (by decide) ?_
    exact sy_iret C hr hlocks hP hS hw dX7_undo_14
theorem mw_X7_share : MW yX7_share cX7_share 1 (some .int) 0 := ⟨w_1004, w_8, by decide +kernel⟩
def wp_X7_share (T : St) (post : Int32 → St → Prop) : Prop :=
  (¬ lg_cmp ((T).2 130 18) 0 = 0 → (¬ (sv T 130 0 0).1 130 0 = 0 → post 0 (sv T 130 0 0)) ∧ ((sv T 130 0 0).1 130 0 = 0 → ¬ (sv T 130 0 0).2 130 18 = 0 ∧ (post ((((sv T 130 0 0).2 130 17) / ((sv T 130 0 0).2 130 18)).toInt32) (sv T 130 0 0)))) ∧ (lg_cmp ((T).2 130 18) 0 = 0 → (¬ (sv T 130 0 1).1 130 0 = 0 → post 0 (sv T 130 0 1)) ∧ ((sv T 130 0 1).1 130 0 = 0 → ¬ (sv T 130 0 1).2 130 18 = 0 ∧ (post ((((sv T 130 0 1).2 130 17) / ((sv T 130 0 1).2 130 18)).toInt32) (sv T 130 0 1))))
set_option maxHeartbeats 4000000 in
set_option maxRecDepth 100000 in
theorem m_X7_share (l : Launch) (G : Gm) (hi : Inj G)   (T : St) (post : Int32 → St → Prop) (hw : wp_X7_share T post) : Mi l yX7_share cX7_share 1 (some .int) 0 0 G [.ref (G.2.2 130)] T post := by
  refine sy_head hi (by decide) (Nat.le_of_ble_eq_true rfl) (lv := [(0, .ref (G.2.2 130))]) rfl ?_
  intro p e s m below meth c C hr hlocks hP hS ls hl
  have C : Cx p s m _ c cX7_share 1 RX7 G := C
  obtain ⟨hx, hb, hml, hown, hg, hK, hN, -⟩ := id C
  unfold wp_X7_share at hw
  refine lv_aload_n hx hb dX7_share_0 rfl (lv_at hl 0 rfl) ?_
  refine lv_aload_n hx hb dX7_share_1 rfl (lv_at hl 0 rfl) ?_
  refine gf_X7_181 C hP (o := 130) rfl dX7_share_2 ?_
  refine lv_lconst (v := 0) hx hb dX7_share_5 (by decide) ?_
  refine W.lcmp hx hb dX7_share_6 ?_
  refine lv_if_ne (tgt := 14) hx hb dX7_share_7 (by decide) (fun hc1 => ?_) (fun hc1 => ?_)
  · have hw := hw.1 hc1
    refine lv_iconst (v := 0) hx hb dX7_share_14 (by decide) ?_
    refine pf_X7_71 C hP hS (fun _ h => h) (o := 130) rfl dX7_share_15 (fun H locs hP hS => ?_)
    refine lv_aload_n hx hb dX7_share_18 rfl (lv_at hl 0 rfl) ?_
    refine gf_X7_71 C hP (o := 130) rfl dX7_share_19 ?_
    refine lv_if_ne (tgt := 38) hx hb dX7_share_22 (by decide) (fun hc2 => ?_) (fun hc2 => ?_)
    · have hw := hw.1 hc2
      refine lv_iconst (v := 0) hx hb dX7_share_38 (by decide) ?_
      exact sy_iret C hr hlocks hP hS hw dX7_share_39
    · have hw := hw.2 hc2
      refine lv_aload_n hx hb dX7_share_25 rfl (lv_at hl 0 rfl) ?_
      refine gf_X7_177 C hP (o := 130) rfl dX7_share_26 ?_
      refine lv_aload_n hx hb dX7_share_29 rfl (lv_at hl 0 rfl) ?_
      refine gf_X7_181 C hP (o := 130) rfl dX7_share_30 ?_
      obtain ⟨hz3, hw⟩ := hw
      refine lv_ldiv hx hb dX7_share_33 hz3 ?_
      refine lv_l2i hx hb dX7_share_34 rfl ?_
      refine lv_goto (tgt := 39) hx hb dX7_share_35 (by decide) ?_
      exact sy_iret C hr hlocks hP hS hw dX7_share_39
  · have hw := hw.2 hc1
    refine lv_iconst (v := 1) hx hb dX7_share_10 (by decide) ?_
    refine lv_goto (tgt := 15) hx hb dX7_share_11 (by decide) ?_
    refine pf_X7_71 C hP hS (fun _ h => h) (o := 130) rfl dX7_share_15 (fun H locs hP hS => ?_)
    refine lv_aload_n hx hb dX7_share_18 rfl (lv_at hl 0 rfl) ?_
    refine gf_X7_71 C hP (o := 130) rfl dX7_share_19 ?_
    refine lv_if_ne (tgt := 38) hx hb dX7_share_22 (by decide) (fun hc4 => ?_) (fun hc4 => ?_)
    · have hw := hw.1 hc4
      refine lv_iconst (v := 0) hx hb dX7_share_38 (by decide) ?_
      exact sy_iret C hr hlocks hP hS hw dX7_share_39
    · have hw := hw.2 hc4
      refine lv_aload_n hx hb dX7_share_25 rfl (lv_at hl 0 rfl) ?_
      refine gf_X7_177 C hP (o := 130) rfl dX7_share_26 ?_
      refine lv_aload_n hx hb dX7_share_29 rfl (lv_at hl 0 rfl) ?_
      refine gf_X7_181 C hP (o := 130) rfl dX7_share_30 ?_
      obtain ⟨hz5, hw⟩ := hw
      refine lv_ldiv hx hb dX7_share_33 hz5 ?_
      refine lv_l2i hx hb dX7_share_34 rfl ?_
      refine lv_goto (tgt := 39) hx hb dX7_share_35 (by decide) ?_
      exact sy_iret C hr hlocks hP hS hw dX7_share_39
theorem mw_X7_count : MW yX7_count cX7_count 5 (some .int) 1 := ⟨w_1008, w_8, by decide +kernel⟩
def wj_X7_count_37  (k5 : (Int32 × Int32 × Int32) → St → Prop) (j3_24 : Int32) (j4_25 : Int32) (s26 : Int32) (s27 : Int32) (T28 : St) (post : Int32 → St → Prop) : Prop :=
  vp_in j4_25 10 ∧ ((T28.1 137 j4_25.toNatClampNeg < 3 → k5 (s27 + s26, j3_24 + 0, j4_25 + 1) T28) ∧ (¬ T28.1 137 j4_25.toNatClampNeg < 3 → k5 (s27 + s26, j3_24 + 1, j4_25 + 1) T28))
def wb_X7_count_12 (a1 : Int32) (k5 : (Int32 × Int32 × Int32) → St → Prop) (v2_1 : Int32) (v3_2 : Int32) (v4_3 : Int32) (T4 : St) (post : Int32 → St → Prop) : Prop :=
 (T4.1 130 2 ≤ v4_3 → (a1 = 0 → post (T4.1 130 2) T4) ∧ (¬ a1 = 0 → (a1 = 1 → post v2_1 T4) ∧ (¬ a1 = 1 → (a1 = 2 → post (T4.1 130 19) T4) ∧ (¬ a1 = 2 → (a1 = 3 → post (T4.1 130 21) T4) ∧ (¬ a1 = 3 → (a1 = 4 → post (T4.1 130 13) T4) ∧ (¬ a1 = 4 → (a1 = 5 → post (T4.1 130 14) T4) ∧ (¬ a1 = 5 → (a1 = 6 → post (T4.1 130 15) T4) ∧ (¬ a1 = 6 → (a1 = 7 → post (T4.1 130 16) T4) ∧ (¬ a1 = 7 → (a1 = 8 → post v3_2 T4) ∧ (¬ a1 = 8 → post (-2) T4)))))))))) ∧ (¬ T4.1 130 2 ≤ v4_3 → vp_in v4_3 10 ∧ ((T4.1 133 v4_3.toNatClampNeg = 0 → wj_X7_count_37 k5 v3_2 v4_3 0 v2_1 T4 post) ∧ (¬ T4.1 133 v4_3.toNatClampNeg = 0 → wj_X7_count_37 k5 v3_2 v4_3 1 v2_1 T4 post)))
def wp_X7_count (a1 : Int32) (T : St) (post : Int32 → St → Prop) : Prop :=
  LW (fun kl (vl : Int32 × Int32 × Int32) Tl => wb_X7_count_12 a1 kl vl.1 vl.2.1 vl.2.2 Tl post) (0, 0, 0) (sv T 130 0 0)
set_option maxHeartbeats 4000000 in
set_option maxRecDepth 100000 in
theorem m_X7_count (l : Launch) (G : Gm) (hi : Inj G) (a1 : Int32)  (T : St) (post : Int32 → St → Prop) (hw : wp_X7_count a1 T post) : Mi l yX7_count cX7_count 5 (some .int) 0 0 G [.ref (G.2.2 130), .int a1] T post := by
  refine sy_head hi (by decide) (Nat.le_of_ble_eq_true rfl) (lv := [(0, .ref (G.2.2 130)), (1, .int a1)]) rfl ?_
  intro p e s m below meth c C hr hlocks hP hS ls hl
  have C : Cx p s m _ c cX7_count 5 RX7 G := C
  obtain ⟨hx, hb, hml, hown, hg, hK, hN, -⟩ := id C
  unfold wp_X7_count at hw
  refine lv_aload_n hx hb dX7_count_0 rfl (lv_at hl 0 rfl) ?_
  refine lv_iconst (v := 0) hx hb dX7_count_1 (by decide) ?_
  refine pf_X7_71 C hP hS (fun _ h => h) (o := 130) rfl dX7_count_2 (fun H locs hP hS => ?_)
  refine lv_iconst (v := 0) hx hb dX7_count_5 (by decide) ?_
  refine lv_istore_n (lv' := [(2, .int 0), (0, .ref (G.2.2 130)), (1, .int a1)]) hx hb dX7_count_6 rfl hl (by decide) rfl (fun ls hl => ?_)
  refine lv_iconst (v := 0) hx hb dX7_count_7 (by decide) ?_
  refine lv_istore_n (lv' := [(3, .int 0), (2, .int 0), (0, .ref (G.2.2 130)), (1, .int a1)]) hx hb dX7_count_8 rfl hl (by decide) rfl (fun ls hl => ?_)
  refine lv_iconst (v := 0) hx hb dX7_count_9 (by decide) ?_
  refine lv_istore (lv' := [(4, .int 0), (3, .int 0), (2, .int 0), (0, .ref (G.2.2 130)), (1, .int a1)]) hx hb dX7_count_10 hl (by decide) rfl (fun ls hl => ?_)
  obtain ⟨I6, u7, hI, hst8⟩ := hw
  have L11 : ∀ (n : Nat) (v2_1 : Int32) (v3_2 : Int32) (v4_3 : Int32) (T4 : St), I6 (v2_1, v3_2, v4_3) T4 → u7 (v2_1, v3_2, v4_3) T4 < n → ∀ (H : Heap) (locs : List Loc), va_P G.1 sc_cl (wd G T4) H → va_S (SA G) s.heap H locs → ∀ ls : Array Slot, lv_has ls 5 [(4, .int v4_3), (3, .int v3_2), (2, .int v2_1), (0, .ref (G.2.2 130)), (1, .int a1)] → W p l e { frames := 0, cells := 0, slots := 0, locals := 0 } s m ([.ref (G.2.2 130), .int a1] : List Value).toArray below meth c H locs 0 0 (MQ below (va_Qi post (Sy G) (SA G)) ([.ref (G.2.2 130), .int a1] : List Value).toArray s 0 0 (SA G)) (F0 m 12 ls []) := by
    intro n
    induction n with
    | zero => intro _ _ _ _ _ h; exact absurd h (Nat.not_lt_zero _)
    | succ n ih9 =>
      intro v2_1 v3_2 v4_3 T4 hI hlt10 H locs hP hS ls hl
      have hw := hst8 (v2_1, v3_2, v4_3) T4 hI
      unfold wb_X7_count_12 at hw
      have J31 : ∀ (j3_24 : Int32) (j4_25 : Int32) (s26 : Int32) (s27 : Int32) (T28 : St), wj_X7_count_37  (fun v' T' => I6 v' T' ∧ u7 v' T' < u7 (v2_1, v3_2, v4_3) T4) j3_24 j4_25 s26 s27 T28 post → ∀ (H : Heap) (locs : List Loc), va_P G.1 sc_cl (wd G T28) H → va_S (SA G) s.heap H locs → ∀ ls : Array Slot, lv_has ls 5 [(0, .ref (G.2.2 130)), (1, .int a1), (3, .int j3_24), (4, .int j4_25)] → W p l e { frames := 0, cells := 0, slots := 0, locals := 0 } s m ([.ref (G.2.2 130), .int a1] : List Value).toArray below meth c H locs 0 0 (MQ below (va_Qi post (Sy G) (SA G)) ([.ref (G.2.2 130), .int a1] : List Value).toArray s 0 0 (SA G)) (F0 m 37 ls [.int s26, .int s27]) := by
        intro j3_24 j4_25 s26 s27 T28  hw H locs hP hS ls hl
        unfold wj_X7_count_37 at hw
        refine lv_iadd hx hb dX7_count_37 ?_
        refine lv_istore_n (lv' := [(2, .int (s27 + s26)), (0, .ref (G.2.2 130)), (1, .int a1), (3, .int j3_24), (4, .int j4_25)]) hx hb dX7_count_38 rfl hl (by decide) rfl (fun ls hl => ?_)
        refine lv_iload_n hx hb dX7_count_39 rfl (lv_at hl 3 rfl) ?_
        refine lv_aload_n hx hb dX7_count_40 rfl (lv_at hl 1 rfl) ?_
        refine gf_X7_29 C hP (o := 130) rfl dX7_count_41 ?_
        refine lv_iload hx hb dX7_count_44 (lv_at hl 4 rfl) ?_
        obtain ⟨hn29, hw⟩ := hw
        refine sy_iald C hP (o := 137) rfl rfl hn29 dX7_count_46 ?_
        refine lv_iconst (v := 3) hx hb dX7_count_47 (by decide) ?_
        refine lv_icmp_lt (tgt := 55) hx hb dX7_count_48 (by decide) (fun hc30 => ?_) (fun hc30 => ?_)
        · have hw := hw.1 hc30
          refine lv_iconst (v := 0) hx hb dX7_count_55 (by decide) ?_
          refine lv_iadd hx hb dX7_count_56 ?_
          refine lv_istore_n (lv' := [(3, .int (j3_24 + 0)), (2, .int (s27 + s26)), (0, .ref (G.2.2 130)), (1, .int a1), (4, .int j4_25)]) hx hb dX7_count_57 rfl hl (by decide) rfl (fun ls hl => ?_)
          refine lv_iinc (v := j4_25 + 1) (lv' := [(4, .int (j4_25 + 1)), (3, .int (j3_24 + 0)), (2, .int (s27 + s26)), (0, .ref (G.2.2 130)), (1, .int a1)]) hx hb dX7_count_58 hl (k := 4) rfl rfl (by decide) rfl (fun ls hl => ?_)
          refine lv_goto (tgt := 12) hx hb dX7_count_61 (by decide) ?_
          exact ih9 _ _ _ _ hw.1 (Nat.lt_of_lt_of_le hw.2 (Nat.le_of_lt_succ hlt10)) _ _ hP hS ls (lv_sub hl [0, 1, 2, 3, 4] rfl)
        · have hw := hw.2 hc30
          refine lv_iconst (v := 1) hx hb dX7_count_51 (by decide) ?_
          refine lv_goto (tgt := 56) hx hb dX7_count_52 (by decide) ?_
          refine lv_iadd hx hb dX7_count_56 ?_
          refine lv_istore_n (lv' := [(3, .int (j3_24 + 1)), (2, .int (s27 + s26)), (0, .ref (G.2.2 130)), (1, .int a1), (4, .int j4_25)]) hx hb dX7_count_57 rfl hl (by decide) rfl (fun ls hl => ?_)
          refine lv_iinc (v := j4_25 + 1) (lv' := [(4, .int (j4_25 + 1)), (3, .int (j3_24 + 1)), (2, .int (s27 + s26)), (0, .ref (G.2.2 130)), (1, .int a1)]) hx hb dX7_count_58 hl (k := 4) rfl rfl (by decide) rfl (fun ls hl => ?_)
          refine lv_goto (tgt := 12) hx hb dX7_count_61 (by decide) ?_
          exact ih9 _ _ _ _ hw.1 (Nat.lt_of_lt_of_le hw.2 (Nat.le_of_lt_succ hlt10)) _ _ hP hS ls (lv_sub hl [0, 1, 2, 3, 4] rfl)
      refine lv_iload hx hb dX7_count_12 (lv_at hl 0 rfl) ?_
      refine lv_aload_n hx hb dX7_count_14 rfl (lv_at hl 3 rfl) ?_
      refine gf_X7_75 C hP (o := 130) rfl dX7_count_15 ?_
      refine lv_icmp_ge (tgt := 64) hx hb dX7_count_18 (by decide) (fun hc12 => ?_) (fun hc12 => ?_)
      · have hw := hw.1 hc12
        refine lv_iload_n hx hb dX7_count_64 rfl (lv_at hl 4 rfl) ?_
        by_cases hs13 : a1 = 0
        · have hw := hw.1 hs13
          refine lv_tableIn (off := 51) (tgt := 116) hx hb dX7_count_65 (by rw [hs13]; decide) (by rw [hs13]; decide) (by rw [hs13]; rfl) (by decide) ?_
          refine lv_aload_n hx hb dX7_count_116 rfl (lv_at hl 3 rfl) ?_
          refine gf_X7_75 C hP (o := 130) rfl dX7_count_117 ?_
          exact sy_iret C hr hlocks hP hS hw dX7_count_120
        · have hw := hw.2 hs13
          by_cases hs14 : a1 = 1
          · have hw := hw.1 hs14
            refine lv_tableIn (off := 56) (tgt := 121) hx hb dX7_count_65 (by rw [hs14]; decide) (by rw [hs14]; decide) (by rw [hs14]; rfl) (by decide) ?_
            refine lv_iload_n hx hb dX7_count_121 rfl (lv_at hl 2 rfl) ?_
            exact sy_iret C hr hlocks hP hS hw dX7_count_122
          · have hw := hw.2 hs14
            by_cases hs15 : a1 = 2
            · have hw := hw.1 hs15
              refine lv_tableIn (off := 58) (tgt := 123) hx hb dX7_count_65 (by rw [hs15]; decide) (by rw [hs15]; decide) (by rw [hs15]; rfl) (by decide) ?_
              refine lv_aload_n hx hb dX7_count_123 rfl (lv_at hl 3 rfl) ?_
              refine gf_X7_185 C hP (o := 130) rfl dX7_count_124 ?_
              exact sy_iret C hr hlocks hP hS hw dX7_count_127
            · have hw := hw.2 hs15
              by_cases hs16 : a1 = 3
              · have hw := hw.1 hs16
                refine lv_tableIn (off := 63) (tgt := 128) hx hb dX7_count_65 (by rw [hs16]; decide) (by rw [hs16]; decide) (by rw [hs16]; rfl) (by decide) ?_
                refine lv_aload_n hx hb dX7_count_128 rfl (lv_at hl 3 rfl) ?_
                refine gf_X7_96 C hP (o := 130) rfl dX7_count_129 ?_
                exact sy_iret C hr hlocks hP hS hw dX7_count_132
              · have hw := hw.2 hs16
                by_cases hs17 : a1 = 4
                · have hw := hw.1 hs17
                  refine lv_tableIn (off := 68) (tgt := 133) hx hb dX7_count_65 (by rw [hs17]; decide) (by rw [hs17]; decide) (by rw [hs17]; rfl) (by decide) ?_
                  refine lv_aload_n hx hb dX7_count_133 rfl (lv_at hl 3 rfl) ?_
                  refine gf_X7_85 C hP (o := 130) rfl dX7_count_134 ?_
                  exact sy_iret C hr hlocks hP hS hw dX7_count_137
                · have hw := hw.2 hs17
                  by_cases hs18 : a1 = 5
                  · have hw := hw.1 hs18
                    refine lv_tableIn (off := 73) (tgt := 138) hx hb dX7_count_65 (by rw [hs18]; decide) (by rw [hs18]; decide) (by rw [hs18]; rfl) (by decide) ?_
                    refine lv_aload_n hx hb dX7_count_138 rfl (lv_at hl 3 rfl) ?_
                    refine gf_X7_124 C hP (o := 130) rfl dX7_count_139 ?_
                    exact sy_iret C hr hlocks hP hS hw dX7_count_142
                  · have hw := hw.2 hs18
                    by_cases hs19 : a1 = 6
                    · have hw := hw.1 hs19
                      refine lv_tableIn (off := 78) (tgt := 143) hx hb dX7_count_65 (by rw [hs19]; decide) (by rw [hs19]; decide) (by rw [hs19]; rfl) (by decide) ?_
                      refine lv_aload_n hx hb dX7_count_143 rfl (lv_at hl 3 rfl) ?_
                      refine gf_X7_82 C hP (o := 130) rfl dX7_count_144 ?_
                      exact sy_iret C hr hlocks hP hS hw dX7_count_147
                    · have hw := hw.2 hs19
                      by_cases hs20 : a1 = 7
                      · have hw := hw.1 hs20
                        refine lv_tableIn (off := 83) (tgt := 148) hx hb dX7_count_65 (by rw [hs20]; decide) (by rw [hs20]; decide) (by rw [hs20]; rfl) (by decide) ?_
                        refine lv_aload_n hx hb dX7_count_148 rfl (lv_at hl 3 rfl) ?_
                        refine gf_X7_191 C hP (o := 130) rfl dX7_count_149 ?_
                        exact sy_iret C hr hlocks hP hS hw dX7_count_152
                      · have hw := hw.2 hs20
                        by_cases hs21 : a1 = 8
                        · have hw := hw.1 hs21
                          refine lv_tableIn (off := 88) (tgt := 153) hx hb dX7_count_65 (by rw [hs21]; decide) (by rw [hs21]; decide) (by rw [hs21]; rfl) (by decide) ?_
                          refine lv_iload_n hx hb dX7_count_153 rfl (lv_at hl 1 rfl) ?_
                          exact sy_iret C hr hlocks hP hS hw dX7_count_154
                        · have hw := hw.2 hs21
                          have ahs13 : (a1).toInt ≠ 0 := ne_toI hs13
                          have ahs14 : (a1).toInt ≠ 1 := ne_toI hs14
                          have ahs15 : (a1).toInt ≠ 2 := ne_toI hs15
                          have ahs16 : (a1).toInt ≠ 3 := ne_toI hs16
                          have ahs17 : (a1).toInt ≠ 4 := ne_toI hs17
                          have ahs18 : (a1).toInt ≠ 5 := ne_toI hs18
                          have ahs19 : (a1).toInt ≠ 6 := ne_toI hs19
                          have ahs20 : (a1).toInt ≠ 7 := ne_toI hs20
                          have ahs21 : (a1).toInt ≠ 8 := ne_toI hs21
                          refine lv_tableOut (tgt := 155) hx hb dX7_count_65 (by omega) (by decide) ?_
                          refine lv_bipush (v := (-2)) hx hb dX7_count_155 (by decide) ?_
                          exact sy_iret C hr hlocks hP hS hw dX7_count_157
      · have hw := hw.2 hc12
        refine lv_iload_n hx hb dX7_count_21 rfl (lv_at hl 2 rfl) ?_
        refine lv_aload_n hx hb dX7_count_22 rfl (lv_at hl 3 rfl) ?_
        refine gf_X7_16 C hP (o := 130) rfl dX7_count_23 ?_
        refine lv_iload hx hb dX7_count_26 (lv_at hl 0 rfl) ?_
        obtain ⟨hn22, hw⟩ := hw
        refine sy_zald C hP (o := 133) rfl rfl hn22 dX7_count_28 ?_
        refine lv_if_eq (tgt := 36) hx hb dX7_count_29 (by decide) (fun hc23 => ?_) (fun hc23 => ?_)
        · have hw := hw.1 hc23
          refine lv_iconst (v := 0) hx hb dX7_count_36 (by decide) ?_
          exact J31 _ _ _ _ _  hw _ _ hP hS ls (lv_sub hl [3, 4, 1, 0] rfl)
        · have hw := hw.2 hc23
          refine lv_iconst (v := 1) hx hb dX7_count_32 (by decide) ?_
          refine lv_goto (tgt := 37) hx hb dX7_count_33 (by decide) ?_
          exact J31 _ _ _ _ _  hw _ _ hP hS ls (lv_sub hl [3, 4, 1, 0] rfl)
  exact L11 _ _ _ _ _ hI (Nat.lt_succ_self _) _ _ hP hS ls (lv_sub hl [0, 1, 2, 3, 4] rfl)
theorem mw_X7_clear : MW yX7_clear cX7_clear 3 (some .int) 0 := ⟨w_1012, w_8, by decide +kernel⟩
def wb_X7_clear_79 (T : St) (k14 : (Int32) → St → Prop) (v2_12 : Int32) (T13 : St) (post : Int32 → St → Prop) : Prop :=
 (9 ≤ v2_12 → post ((sv T 130 0 0).1 130 2) T13) ∧ (¬ 9 ≤ v2_12 → vp_in v2_12 9 ∧ (k14 (v2_12 + 1) (sv T13 145 (v2_12.toNatClampNeg) 0)))
def wb_X7_clear_57 (T : St) (k4 : (Int32) → St → Prop) (v2_2 : Int32) (T3 : St) (post : Int32 → St → Prop) : Prop :=
 (256 ≤ v2_2 → LW (fun kl (vl : Int32) Tl => wb_X7_clear_79 T kl vl Tl post) 0 T3) ∧ (¬ 256 ≤ v2_2 → vp_in v2_2 256 ∧ (k4 (v2_2 + 1) (sv T3 131 (v2_2.toNatClampNeg) 0)))
def wp_X7_clear (T : St) (post : Int32 → St → Prop) : Prop :=
  ∀ T1 : St, T1 = sl (sv (sv (sv (sv (sv (sv (sv (sv T 130 0 0) 130 2 0) 130 19 0) 130 21 0) 130 13 0) 130 14 0) 130 15 0) 130 16 0) 130 17 0 → (LW (fun kl (vl : Int32) Tl => wb_X7_clear_57 T kl vl Tl post) 0 (sl T1 130 18 0))
set_option maxHeartbeats 4000000 in
set_option maxRecDepth 100000 in
theorem m_X7_clear (l : Launch) (G : Gm) (hi : Inj G)   (T : St) (post : Int32 → St → Prop) (hw : wp_X7_clear T post) : Mi l yX7_clear cX7_clear 3 (some .int) 0 0 G [.ref (G.2.2 130)] T post := by
  refine sy_head hi (by decide) (Nat.le_of_ble_eq_true rfl) (lv := [(0, .ref (G.2.2 130))]) rfl ?_
  intro p e s m below meth c C hr hlocks hP hS ls hl
  have C : Cx p s m _ c cX7_clear 3 RX7 G := C
  obtain ⟨hx, hb, hml, hown, hg, hK, hN, -⟩ := id C
  unfold wp_X7_clear at hw
  refine lv_aload_n hx hb dX7_clear_0 rfl (lv_at hl 0 rfl) ?_
  refine lv_iconst (v := 0) hx hb dX7_clear_1 (by decide) ?_
  refine pf_X7_71 C hP hS (fun _ h => h) (o := 130) rfl dX7_clear_2 (fun H locs hP hS => ?_)
  refine lv_aload_n hx hb dX7_clear_5 rfl (lv_at hl 0 rfl) ?_
  refine gf_X7_75 C hP (o := 130) rfl dX7_clear_6 ?_
  refine lv_istore_n (lv' := [(1, .int ((sv T 130 0 0).1 130 2)), (0, .ref (G.2.2 130))]) hx hb dX7_clear_9 rfl hl (by decide) rfl (fun ls hl => ?_)
  refine lv_aload_n hx hb dX7_clear_10 rfl (lv_at hl 1 rfl) ?_
  refine lv_iconst (v := 0) hx hb dX7_clear_11 (by decide) ?_
  refine pf_X7_75 C hP hS (fun _ h => h) (o := 130) rfl dX7_clear_12 (fun H locs hP hS => ?_)
  refine lv_aload_n hx hb dX7_clear_15 rfl (lv_at hl 1 rfl) ?_
  refine lv_iconst (v := 0) hx hb dX7_clear_16 (by decide) ?_
  refine pf_X7_185 C hP hS (fun _ h => h) (o := 130) rfl dX7_clear_17 (fun H locs hP hS => ?_)
  refine lv_aload_n hx hb dX7_clear_20 rfl (lv_at hl 1 rfl) ?_
  refine lv_iconst (v := 0) hx hb dX7_clear_21 (by decide) ?_
  refine pf_X7_96 C hP hS (fun _ h => h) (o := 130) rfl dX7_clear_22 (fun H locs hP hS => ?_)
  refine lv_aload_n hx hb dX7_clear_25 rfl (lv_at hl 1 rfl) ?_
  refine lv_iconst (v := 0) hx hb dX7_clear_26 (by decide) ?_
  refine pf_X7_85 C hP hS (fun _ h => h) (o := 130) rfl dX7_clear_27 (fun H locs hP hS => ?_)
  refine lv_aload_n hx hb dX7_clear_30 rfl (lv_at hl 1 rfl) ?_
  refine lv_iconst (v := 0) hx hb dX7_clear_31 (by decide) ?_
  refine pf_X7_124 C hP hS (fun _ h => h) (o := 130) rfl dX7_clear_32 (fun H locs hP hS => ?_)
  refine lv_aload_n hx hb dX7_clear_35 rfl (lv_at hl 1 rfl) ?_
  refine lv_iconst (v := 0) hx hb dX7_clear_36 (by decide) ?_
  refine pf_X7_82 C hP hS (fun _ h => h) (o := 130) rfl dX7_clear_37 (fun H locs hP hS => ?_)
  refine lv_aload_n hx hb dX7_clear_40 rfl (lv_at hl 1 rfl) ?_
  refine lv_iconst (v := 0) hx hb dX7_clear_41 (by decide) ?_
  refine pf_X7_191 C hP hS (fun _ h => h) (o := 130) rfl dX7_clear_42 (fun H locs hP hS => ?_)
  refine lv_aload_n hx hb dX7_clear_45 rfl (lv_at hl 1 rfl) ?_
  refine lv_lconst (v := 0) hx hb dX7_clear_46 (by decide) ?_
  refine pf_X7_177 C hP hS (fun _ h => h) (o := 130) rfl dX7_clear_47 (fun H locs hP hS => ?_)
  obtain ⟨T1, eT1, hP⟩ := nameT (P := fun T => va_P G.1 sc_cl (wd G T) H) hP
  have hw := hw T1 eT1
  refine lv_aload_n hx hb dX7_clear_50 rfl (lv_at hl 1 rfl) ?_
  refine lv_lconst (v := 0) hx hb dX7_clear_51 (by decide) ?_
  refine pf_X7_181 C hP hS (fun _ h => h) (o := 130) rfl dX7_clear_52 (fun H locs hP hS => ?_)
  refine lv_iconst (v := 0) hx hb dX7_clear_55 (by decide) ?_
  refine lv_istore_n (lv' := [(2, .int 0), (1, .int ((sv T 130 0 0).1 130 2)), (0, .ref (G.2.2 130))]) hx hb dX7_clear_56 rfl hl (by decide) rfl (fun ls hl => ?_)
  obtain ⟨I5, u6, hI, hst7⟩ := hw
  have L10 : ∀ (n : Nat) (v2_2 : Int32) (T3 : St), I5 v2_2 T3 → u6 v2_2 T3 < n → ∀ (H : Heap) (locs : List Loc), va_P G.1 sc_cl (wd G T3) H → va_S (SA G) s.heap H locs → ∀ ls : Array Slot, lv_has ls 3 [(2, .int v2_2), (1, .int ((sv T 130 0 0).1 130 2)), (0, .ref (G.2.2 130))] → W p l e { frames := 0, cells := 0, slots := 0, locals := 0 } s m ([.ref (G.2.2 130)] : List Value).toArray below meth c H locs 0 0 (MQ below (va_Qi post (Sy G) (SA G)) ([.ref (G.2.2 130)] : List Value).toArray s 0 0 (SA G)) (F0 m 57 ls []) := by
    intro n
    induction n with
    | zero => intro _ _ _ h; exact absurd h (Nat.not_lt_zero _)
    | succ n ih8 =>
      intro v2_2 T3 hI hlt9 H locs hP hS ls hl
      have hw := hst7 v2_2 T3 hI
      unfold wb_X7_clear_57 at hw
      refine lv_iload_n hx hb dX7_clear_57 rfl (lv_at hl 0 rfl) ?_
      refine lv_sipush (v := 256) hx hb dX7_clear_58 (by decide) ?_
      refine lv_icmp_ge (tgt := 77) hx hb dX7_clear_61 (by decide) (fun hc11 => ?_) (fun hc11 => ?_)
      · have hw := hw.1 hc11
        refine lv_iconst (v := 0) hx hb dX7_clear_77 (by decide) ?_
        refine lv_istore_n (lv' := [(2, .int 0), (1, .int ((sv T 130 0 0).1 130 2)), (0, .ref (G.2.2 130))]) hx hb dX7_clear_78 rfl hl (by decide) rfl (fun ls hl => ?_)
        obtain ⟨I15, u16, hI, hst17⟩ := hw
        have L20 : ∀ (n : Nat) (v2_12 : Int32) (T13 : St), I15 v2_12 T13 → u16 v2_12 T13 < n → ∀ (H : Heap) (locs : List Loc), va_P G.1 sc_cl (wd G T13) H → va_S (SA G) s.heap H locs → ∀ ls : Array Slot, lv_has ls 3 [(2, .int v2_12), (1, .int ((sv T 130 0 0).1 130 2)), (0, .ref (G.2.2 130))] → W p l e { frames := 0, cells := 0, slots := 0, locals := 0 } s m ([.ref (G.2.2 130)] : List Value).toArray below meth c H locs 0 0 (MQ below (va_Qi post (Sy G) (SA G)) ([.ref (G.2.2 130)] : List Value).toArray s 0 0 (SA G)) (F0 m 79 ls []) := by
          intro n
          induction n with
          | zero => intro _ _ _ h; exact absurd h (Nat.not_lt_zero _)
          | succ n ih18 =>
            intro v2_12 T13 hI hlt19 H locs hP hS ls hl
            have hw := hst17 v2_12 T13 hI
            unfold wb_X7_clear_79 at hw
            refine lv_iload_n hx hb dX7_clear_79 rfl (lv_at hl 0 rfl) ?_
            refine lv_bipush (v := 9) hx hb dX7_clear_80 (by decide) ?_
            refine lv_icmp_ge (tgt := 98) hx hb dX7_clear_82 (by decide) (fun hc21 => ?_) (fun hc21 => ?_)
            · have hw := hw.1 hc21
              refine lv_iload_n hx hb dX7_clear_98 rfl (lv_at hl 1 rfl) ?_
              exact sy_iret C hr hlocks hP hS hw dX7_clear_99
            · have hw := hw.2 hc21
              refine lv_aload_n hx hb dX7_clear_85 rfl (lv_at hl 2 rfl) ?_
              refine gf_X7_53 C hP (o := 130) rfl dX7_clear_86 ?_
              refine lv_iload_n hx hb dX7_clear_89 rfl (lv_at hl 0 rfl) ?_
              refine lv_iconst (v := 0) hx hb dX7_clear_90 (by decide) ?_
              obtain ⟨hn22, hw⟩ := hw
              refine sy_iast C hP hS (fun _ h => h) (o := 145) rfl rfl hn22 dX7_clear_91 (fun H locs hP hS => ?_)
              refine lv_iinc (v := v2_12 + 1) (lv' := [(2, .int (v2_12 + 1)), (1, .int ((sv T 130 0 0).1 130 2)), (0, .ref (G.2.2 130))]) hx hb dX7_clear_92 hl (k := 0) rfl rfl (by decide) rfl (fun ls hl => ?_)
              refine lv_goto (tgt := 79) hx hb dX7_clear_95 (by decide) ?_
              exact ih18 _ _ hw.1 (Nat.lt_of_lt_of_le hw.2 (Nat.le_of_lt_succ hlt19)) _ _ hP hS ls (lv_sub hl [0, 1, 2] rfl)
        exact L20 _ _ _ hI (Nat.lt_succ_self _) _ _ hP hS ls (lv_sub hl [0, 1, 2] rfl)
      · have hw := hw.2 hc11
        refine lv_aload_n hx hb dX7_clear_64 rfl (lv_at hl 2 rfl) ?_
        refine gf_X7_7 C hP (o := 130) rfl dX7_clear_65 ?_
        refine lv_iload_n hx hb dX7_clear_68 rfl (lv_at hl 0 rfl) ?_
        refine lv_iconst (v := 0) hx hb dX7_clear_69 (by decide) ?_
        obtain ⟨hn23, hw⟩ := hw
        refine sy_iast C hP hS (fun _ h => h) (o := 131) rfl rfl hn23 dX7_clear_70 (fun H locs hP hS => ?_)
        refine lv_iinc (v := v2_2 + 1) (lv' := [(2, .int (v2_2 + 1)), (1, .int ((sv T 130 0 0).1 130 2)), (0, .ref (G.2.2 130))]) hx hb dX7_clear_71 hl (k := 0) rfl rfl (by decide) rfl (fun ls hl => ?_)
        refine lv_goto (tgt := 57) hx hb dX7_clear_74 (by decide) ?_
        exact ih8 _ _ hw.1 (Nat.lt_of_lt_of_le hw.2 (Nat.le_of_lt_succ hlt9)) _ _ hP hS ls (lv_sub hl [0, 1, 2] rfl)
  exact L10 _ _ _ hI (Nat.lt_succ_self _) _ _ hP hS ls (lv_sub hl [0, 1, 2] rfl)
