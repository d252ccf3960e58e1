theorem mw_X6_isNoPlace : MW yX6_isNoPlace cX6_isNoPlace 1 (some .boolean) 1 := ⟨w_276, w_1, by decide +kernel⟩
def wp_X6_isNoPlace (a1 : Int32) (T : St) (post : Int32 → St → Prop) : Prop :=
  (a1 < 0 → post 1 T) ∧ (¬ a1 < 0 → (a1 ≤ 255 → post 0 T) ∧ (¬ a1 ≤ 255 → post 1 T))
set_option maxHeartbeats 4000000 in
set_option maxRecDepth 100000 in
theorem m_X6_isNoPlace (l : Launch) (G : Gm) (hi : Inj G) (a1 : Int32)  (T : St) (post : Int32 → St → Prop) (hw : wp_X6_isNoPlace a1 T post) : Mi l yX6_isNoPlace cX6_isNoPlace 1 (some .boolean) 0 0 G [.int a1] T post := by
  refine sy_head hi (by decide) (Nat.le_of_ble_eq_true rfl) (lv := [(0, .int a1)]) rfl ?_
  intro p e s m below meth c C hr hlocks hP hS ls hl
  have C : Cx p s m _ c cX6_isNoPlace 1 RX6 G := C
  obtain ⟨hx, hb, hml, hown, hg, hK, hN, -⟩ := id C
  unfold wp_X6_isNoPlace at hw
  refine lv_iload_n hx hb dX6_isNoPlace_0 rfl (lv_at hl 0 rfl) ?_
  refine lv_if_lt (tgt := 11) hx hb dX6_isNoPlace_1 (by decide) (fun hc1 => ?_) (fun hc1 => ?_)
  · have hw := hw.1 hc1
    refine lv_iconst (v := 1) hx hb dX6_isNoPlace_11 (by decide) ?_
    refine lv_goto (tgt := 16) hx hb dX6_isNoPlace_12 (by decide) ?_
    exact sy_zret C hr hlocks hP hS rfl hw dX6_isNoPlace_16
  · have hw := hw.2 hc1
    refine lv_iload_n hx hb dX6_isNoPlace_4 rfl (lv_at hl 0 rfl) ?_
    refine lv_sipush (v := 255) hx hb dX6_isNoPlace_5 (by decide) ?_
    refine lv_icmp_le (tgt := 15) hx hb dX6_isNoPlace_8 (by decide) (fun hc2 => ?_) (fun hc2 => ?_)
    · have hw := hw.1 hc2
      refine lv_iconst (v := 0) hx hb dX6_isNoPlace_15 (by decide) ?_
      exact sy_zret C hr hlocks hP hS rfl hw dX6_isNoPlace_16
    · have hw := hw.2 hc2
      refine lv_iconst (v := 1) hx hb dX6_isNoPlace_11 (by decide) ?_
      refine lv_goto (tgt := 16) hx hb dX6_isNoPlace_12 (by decide) ?_
      exact sy_zret C hr hlocks hP hS rfl hw dX6_isNoPlace_16
theorem mw_X6_beginKeeping : MW yX6_beginKeeping cX6_beginKeeping 1 none 0 := ⟨w_280, w_1, by decide +kernel⟩
def wp_X6_beginKeeping (T : St) (post : St → Prop) : Prop :=
  wp_X2_note (4 + 1) T (fun T1 => wp_X4_beginChanges 4 T1 (fun T3 => post T3))
set_option maxHeartbeats 4000000 in
set_option maxRecDepth 100000 in
theorem m_X6_beginKeeping (l : Launch) (G : Gm) (hi : Inj G)   (T : St) (post : St → Prop) (hw : wp_X6_beginKeeping T post) : Mv l yX6_beginKeeping cX6_beginKeeping 1 none 2 101 G [.ref (G.2.2 0)] T post := by
  refine sy_head hi (by decide) (Nat.le_of_ble_eq_true rfl) (lv := [(0, .ref (G.2.2 0))]) rfl ?_
  intro p e s m below meth c C hr hlocks hP hS ls hl
  have C : Cx p s m _ c cX6_beginKeeping 1 RX6 G := C
  obtain ⟨hx, hb, hml, hown, hg, hK, hN, -⟩ := id C
  unfold wp_X6_beginKeeping at hw
  refine lv_aload_n hx hb dX6_beginKeeping_0 rfl (lv_at hl 0 rfl) ?_
  refine gf_X6_34 C hP (o := 0) rfl dX6_beginKeeping_1 ?_
  refine lv_aload_n hx hb dX6_beginKeeping_4 rfl (lv_at hl 0 rfl) ?_
  refine gf_X6_21 C hP (o := 0) rfl dX6_beginKeeping_5 ?_
  refine gf_X6_88 C hP (o := 4) rfl dX6_beginKeeping_8 ?_
  refine sy_gov (sy_runV C hP rfl rfl (m_X2_note l G hi _ (ko_by rfl).1 (ko_by rfl).2 _ _ hw) mw_X2_note w_282 w_283 w_281 (rest := []) rfl hl.1 rfl (Nat.le_of_ble_eq_true rfl) ⟨Nat.le_of_ble_eq_true rfl, Nat.le_of_ble_eq_true rfl⟩ dX6_beginKeeping_11 ⟨Nat.zero_le _, Nat.zero_le _⟩) hS (fun _ h => h) (fun T1 H locs hw hP hS => ?_)
  refine lv_aload_n hx hb dX6_beginKeeping_14 rfl (lv_at hl 0 rfl) ?_
  refine gf_X6_21 C hP (o := 0) rfl dX6_beginKeeping_15 ?_
  refine sy_gov (sy_runV C hP rfl rfl (m_X4_beginChanges l G hi _ rfl _ _ hw) mw_X4_beginChanges w_289 w_290 w_288 (rest := []) rfl hl.1 rfl (Nat.le_of_ble_eq_true rfl) ⟨Nat.le_of_ble_eq_true rfl, Nat.le_of_ble_eq_true rfl⟩ dX6_beginKeeping_18 ⟨Nat.zero_le _, Nat.zero_le _⟩) hS (fun _ h => h) (fun T3 H locs hw hP hS => ?_)
  exact sy_vret C hr hlocks hP hS hw dX6_beginKeeping_21
theorem mw_X6_layDroppedAside : MW yX6_layDroppedAside cX6_layDroppedAside 3 (some .int) 0 := ⟨w_307, w_1, by decide +kernel⟩
def wb_X6_layDroppedAside_4  (k4 : (Int32 × Int32) → St → Prop) (v1_1 : Int32) (v2_2 : Int32) (T3 : St) (post : Int32 → St → Prop) : Prop :=
 (T3.1 0 9 ≤ v2_2 → post v1_1 (sv T3 0 12 ((T3.1 0 12) + v1_1))) ∧ (¬ T3.1 0 9 ≤ v2_2 → wp_X4_wasDropped 4 v2_2 T3 (fun r13 T12 => (r13 = 0 → k4 (v1_1, v2_2 + 1) T12) ∧ (¬ r13 = 0 → vp_in v2_2 10 ∧ (wp_X1_mark v2_2 (mb (27 + 9 * v2_2.toNatClampNeg) ((T12).1 (27 + 9 * v2_2.toNatClampNeg) 0)) 0 T12 (fun T16 => vp_in v2_2 10 ∧ (wp_X5_layAside (27 + 9 * v2_2.toNatClampNeg) T16 (fun T19 => k4 (v1_1 + 1, v2_2 + 1) T19)))))))
def wp_X6_layDroppedAside (T : St) (post : Int32 → St → Prop) : Prop :=
  LW (fun kl (vl : Int32 × Int32) Tl => wb_X6_layDroppedAside_4 kl vl.1 vl.2 Tl post) (0, 0) T
set_option maxHeartbeats 4000000 in
set_option maxRecDepth 100000 in
theorem m_X6_layDroppedAside (l : Launch) (G : Gm) (hi : Inj G)   (T : St) (post : Int32 → St → Prop) (hw : wp_X6_layDroppedAside T post) : Mi l yX6_layDroppedAside cX6_layDroppedAside 3 (some .int) 3 69 G [.ref (G.2.2 0)] T post := by
  refine sy_head hi (by decide) (Nat.le_of_ble_eq_true rfl) (lv := [(0, .ref (G.2.2 0))]) rfl ?_
  intro p e s m below meth c C hr hlocks hP hS ls hl
  have C : Cx p s m _ c cX6_layDroppedAside 3 RX6 G := C
  obtain ⟨hx, hb, hml, hown, hg, hK, hN, -⟩ := id C
  unfold wp_X6_layDroppedAside at hw
  refine lv_iconst (v := 0) hx hb dX6_layDroppedAside_0 (by decide) ?_
  refine lv_istore_n (lv' := [(1, .int 0), (0, .ref (G.2.2 0))]) hx hb dX6_layDroppedAside_1 rfl hl (by decide) rfl (fun ls hl => ?_)
  refine lv_iconst (v := 0) hx hb dX6_layDroppedAside_2 (by decide) ?_
  refine lv_istore_n (lv' := [(2, .int 0), (1, .int 0), (0, .ref (G.2.2 0))]) hx hb dX6_layDroppedAside_3 rfl hl (by decide) rfl (fun ls hl => ?_)
  obtain ⟨I5, u6, hI, hst7⟩ := hw
  have L10 : ∀ (n : Nat) (v1_1 : Int32) (v2_2 : Int32) (T3 : St), I5 (v1_1, v2_2) T3 → u6 (v1_1, v2_2) T3 < n → ∀ (H : Heap) (locs : List Loc), va_P G.1 sc_cl (wd G T3) H → va_S (SA G) s.heap H locs → ∀ ls : Array Slot, lv_has ls 3 [(2, .int v2_2), (1, .int v1_1), (0, .ref (G.2.2 0))] → W p l e { frames := 3, cells := 0, slots := 0, locals := 69 } s m ([.ref (G.2.2 0)] : List Value).toArray below meth c H locs 0 0 (MQ below (va_Qi post (Sy G) (SA G)) ([.ref (G.2.2 0)] : List Value).toArray s 0 0 (SA G)) (F0 m 4 ls []) := by
    intro n
    induction n with
    | zero => intro _ _ _ _ h; exact absurd h (Nat.not_lt_zero _)
    | succ n ih8 =>
      intro v1_1 v2_2 T3 hI hlt9 H locs hP hS ls hl
      have hw := hst7 (v1_1, v2_2) T3 hI
      unfold wb_X6_layDroppedAside_4 at hw
      refine lv_iload_n hx hb dX6_layDroppedAside_4 rfl (lv_at hl 0 rfl) ?_
      refine lv_aload_n hx hb dX6_layDroppedAside_5 rfl (lv_at hl 2 rfl) ?_
      refine gf_X6_92 C hP (o := 0) rfl dX6_layDroppedAside_6 ?_
      refine lv_icmp_ge (tgt := 59) hx hb dX6_layDroppedAside_9 (by decide) (fun hc11 => ?_) (fun hc11 => ?_)
      · have hw := hw.1 hc11
        refine lv_aload_n hx hb dX6_layDroppedAside_59 rfl (lv_at hl 2 rfl) ?_
        refine lv_dup hx hb dX6_layDroppedAside_60 rfl ?_
        refine gf_X6_243 C hP (o := 0) rfl dX6_layDroppedAside_61 ?_
        refine lv_iload_n hx hb dX6_layDroppedAside_64 rfl (lv_at hl 1 rfl) ?_
        refine lv_iadd hx hb dX6_layDroppedAside_65 ?_
        refine pf_X6_243 C hP hS (fun _ h => h) (o := 0) rfl dX6_layDroppedAside_66 (fun H locs hP hS => ?_)
        refine lv_iload_n hx hb dX6_layDroppedAside_69 rfl (lv_at hl 1 rfl) ?_
        exact sy_iret C hr hlocks hP hS hw dX6_layDroppedAside_70
      · have hw := hw.2 hc11
        refine lv_aload_n hx hb dX6_layDroppedAside_12 rfl (lv_at hl 2 rfl) ?_
        refine gf_X6_21 C hP (o := 0) rfl dX6_layDroppedAside_13 ?_
        refine lv_iload_n hx hb dX6_layDroppedAside_16 rfl (lv_at hl 0 rfl) ?_
        refine sy_goi (sy_runV C hP rfl rfl (m_X4_wasDropped l G hi _ _ rfl _ _ hw) mw_X4_wasDropped w_309 w_310 w_308 (rest := []) rfl hl.1 rfl (Nat.le_of_ble_eq_true rfl) ⟨Nat.le_of_ble_eq_true rfl, Nat.le_of_ble_eq_true rfl⟩ dX6_layDroppedAside_17 ⟨Nat.zero_le _, Nat.zero_le _⟩) hS (fun _ h => h) (fun r13 T12 H locs hw hP hS => ?_)
        refine lv_if_eq (tgt := 53) hx hb dX6_layDroppedAside_20 (by decide) (fun hc14 => ?_) (fun hc14 => ?_)
        · have hw := hw.1 hc14
          refine lv_iinc (v := v2_2 + 1) (lv' := [(2, .int (v2_2 + 1)), (1, .int v1_1), (0, .ref (G.2.2 0))]) hx hb dX6_layDroppedAside_53 hl (k := 0) rfl rfl (by decide) rfl (fun ls hl => ?_)
          refine lv_goto (tgt := 4) hx hb dX6_layDroppedAside_56 (by decide) ?_
          exact ih8 _ _ _ hw.1 (Nat.lt_of_lt_of_le hw.2 (Nat.le_of_lt_succ hlt9)) _ _ hP hS ls (lv_sub hl [0, 1, 2] rfl)
        · have hw := hw.2 hc14
          refine lv_aload_n hx hb dX6_layDroppedAside_23 rfl (lv_at hl 2 rfl) ?_
          refine gf_X6_10 C hP (o := 0) rfl dX6_layDroppedAside_24 ?_
          refine lv_iload_n hx hb dX6_layDroppedAside_27 rfl (lv_at hl 0 rfl) ?_
          refine lv_aload_n hx hb dX6_layDroppedAside_28 rfl (lv_at hl 2 rfl) ?_
          refine gf_X6_27 C hP (o := 0) rfl dX6_layDroppedAside_29 ?_
          refine lv_iload_n hx hb dX6_layDroppedAside_32 rfl (lv_at hl 0 rfl) ?_
          obtain ⟨hn15, hw⟩ := hw
          refine sy_aldR C hP hn15 dX6_layDroppedAside_33 ?_
          refine gf_X6_107 C hP (o := (27 + 9 * v2_2.toNatClampNeg)) (ko_ro hn15) dX6_layDroppedAside_34 ?_
          refine lv_iconst (v := 0) hx hb dX6_layDroppedAside_37 (by decide) ?_
          refine sy_gov (sy_runV C hP rfl rfl (m_X1_mark l G hi _ _ _ (ko_mb (ko_ro hn15) _) _ _ hw) mw_X1_mark w_313 w_314 w_312 (rest := []) rfl hl.1 rfl (Nat.le_of_ble_eq_true rfl) ⟨Nat.le_of_ble_eq_true rfl, Nat.le_of_ble_eq_true rfl⟩ dX6_layDroppedAside_38 ⟨Nat.zero_le _, Nat.zero_le _⟩) hS (fun _ h => h) (fun T16 H locs hw hP hS => ?_)
          refine lv_aload_n hx hb dX6_layDroppedAside_41 rfl (lv_at hl 2 rfl) ?_
          refine gf_X6_27 C hP (o := 0) rfl dX6_layDroppedAside_42 ?_
          refine lv_iload_n hx hb dX6_layDroppedAside_45 rfl (lv_at hl 0 rfl) ?_
          obtain ⟨hn18, hw⟩ := hw
          refine sy_aldR C hP hn18 dX6_layDroppedAside_46 ?_
          refine sy_gov (sy_runV C hP (ko_ro hn18) rfl (m_X5_layAside l G hi _ (ko_ro hn18) _ _ hw) mw_X5_layAside w_323 w_324 w_322 (rest := []) rfl hl.1 rfl (Nat.le_of_ble_eq_true rfl) ⟨Nat.le_of_ble_eq_true rfl, Nat.le_of_ble_eq_true rfl⟩ dX6_layDroppedAside_47 ⟨Nat.zero_le _, Nat.zero_le _⟩) hS (fun _ h => h) (fun T19 H locs hw hP hS => ?_)
          refine lv_iinc (v := v1_1 + 1) (lv' := [(1, .int (v1_1 + 1)), (2, .int v2_2), (0, .ref (G.2.2 0))]) hx hb dX6_layDroppedAside_50 hl (k := 1) rfl rfl (by decide) rfl (fun ls hl => ?_)
          refine lv_iinc (v := v2_2 + 1) (lv' := [(2, .int (v2_2 + 1)), (1, .int (v1_1 + 1)), (0, .ref (G.2.2 0))]) hx hb dX6_layDroppedAside_53 hl (k := 1) rfl rfl (by decide) rfl (fun ls hl => ?_)
          refine lv_goto (tgt := 4) hx hb dX6_layDroppedAside_56 (by decide) ?_
          exact ih8 _ _ _ hw.1 (Nat.lt_of_lt_of_le hw.2 (Nat.le_of_lt_succ hlt9)) _ _ hP hS ls (lv_sub hl [0, 1, 2] rfl)
  exact L10 _ _ _ _ hI (Nat.lt_succ_self _) _ _ hP hS ls (lv_sub hl [0, 1, 2] rfl)
theorem mw_X6_endKeeping : MW yX6_endKeeping cX6_endKeeping 1 (some .int) 0 := ⟨w_299, w_1, by decide +kernel⟩
def wp_X6_endKeeping (T : St) (post : Int32 → St → Prop) : Prop :=
  (T.1 4 5 ≤ 0 → wp_X6_layDroppedAside T (fun r3 T2 => post r3 T2)) ∧ (¬ T.1 4 5 ≤ 0 → wp_X2_keepNoted T (fun T4 => wp_X6_layDroppedAside T4 (fun r7 T6 => post r7 T6)))
set_option maxHeartbeats 4000000 in
set_option maxRecDepth 100000 in
theorem m_X6_endKeeping (l : Launch) (G : Gm) (hi : Inj G)   (T : St) (post : Int32 → St → Prop) (hw : wp_X6_endKeeping T post) : Mi l yX6_endKeeping cX6_endKeeping 1 (some .int) 4 91 G [.ref (G.2.2 0)] T post := by
  refine sy_head hi (by decide) (Nat.le_of_ble_eq_true rfl) (lv := [(0, .ref (G.2.2 0))]) rfl ?_
  intro p e s m below meth c C hr hlocks hP hS ls hl
  have C : Cx p s m _ c cX6_endKeeping 1 RX6 G := C
  obtain ⟨hx, hb, hml, hown, hg, hK, hN, -⟩ := id C
  unfold wp_X6_endKeeping at hw
  refine lv_aload_n hx hb dX6_endKeeping_0 rfl (lv_at hl 0 rfl) ?_
  refine gf_X6_21 C hP (o := 0) rfl dX6_endKeeping_1 ?_
  refine gf_X6_265 C hP (o := 4) rfl dX6_endKeeping_4 ?_
  refine lv_if_le (tgt := 17) hx hb dX6_endKeeping_7 (by decide) (fun hc1 => ?_) (fun hc1 => ?_)
  · have hw := hw.1 hc1
    refine lv_aload_n hx hb dX6_endKeeping_17 rfl (lv_at hl 0 rfl) ?_
    refine sy_goi (sy_runV C hP rfl rfl (m_X6_layDroppedAside l G hi  _ _ hw) mw_X6_layDroppedAside w_306 ws_2 w_304 (rest := []) rfl hl.1 rfl (Nat.le_of_ble_eq_true rfl) ⟨Nat.le_of_ble_eq_true rfl, Nat.le_of_ble_eq_true rfl⟩ dX6_endKeeping_18 ⟨Nat.zero_le _, Nat.zero_le _⟩) hS (fun _ h => h) (fun r3 T2 H locs hw hP hS => ?_)
    exact sy_iret C hr hlocks hP hS hw dX6_endKeeping_21
  · have hw := hw.2 hc1
    refine lv_aload_n hx hb dX6_endKeeping_10 rfl (lv_at hl 0 rfl) ?_
    refine gf_X6_34 C hP (o := 0) rfl dX6_endKeeping_11 ?_
    refine sy_gov (sy_runV C hP rfl rfl (m_X2_keepNoted l G hi  _ _ hw) mw_X2_keepNoted w_301 w_302 w_300 (rest := []) rfl hl.1 rfl (Nat.le_of_ble_eq_true rfl) ⟨Nat.le_of_ble_eq_true rfl, Nat.le_of_ble_eq_true rfl⟩ dX6_endKeeping_14 ⟨Nat.zero_le _, Nat.zero_le _⟩) hS (fun _ h => h) (fun T4 H locs hw hP hS => ?_)
    refine lv_aload_n hx hb dX6_endKeeping_17 rfl (lv_at hl 0 rfl) ?_
    refine sy_goi (sy_runV C hP rfl rfl (m_X6_layDroppedAside l G hi  _ _ hw) mw_X6_layDroppedAside w_306 ws_2 w_304 (rest := []) rfl hl.1 rfl (Nat.le_of_ble_eq_true rfl) ⟨Nat.le_of_ble_eq_true rfl, Nat.le_of_ble_eq_true rfl⟩ dX6_endKeeping_18 ⟨Nat.zero_le _, Nat.zero_le _⟩) hS (fun _ h => h) (fun r7 T6 H locs hw hP hS => ?_)
    exact sy_iret C hr hlocks hP hS hw dX6_endKeeping_21
theorem mw_X6_put : MW yX6_put cX6_put 6 (some .int) 3 := ⟨w_273, w_1, by decide +kernel⟩
def wb_X6_put_30 (a1 : Int32) (a2 : Int64) (a3 : Int32) (k10 : (Int32) → St → Prop) (v5_8 : Int32) (T9 : St) (post : Int32 → St → Prop) : Prop :=
 (a3 ≤ v5_8 → wp_X6_endKeeping T9 (fun r19 T18 => post r19 T18)) ∧ (¬ a3 ≤ v5_8 → wp_X4_become 4 (a1 + v5_8) ((((a2.toUInt64 >>> ((8 * ((a3 - 1) - v5_8)).toInt64.toUInt64 &&& Int64.toUInt64 63)).toInt64).toInt32) &&& 255) T9 (fun T20 => k10 (v5_8 + 1) T20))
def wp_X6_put (a1 : Int32) (a2 : Int64) (a3 : Int32) (T : St) (post : Int32 → St → Prop) : Prop :=
  wp_X6_isNoPlace a1 T (fun r2 T1 => (¬ r2 = 0 → post (-2) T1) ∧ (r2 = 0 → (a3 < 1 → post (-2) T1) ∧ (¬ a3 < 1 → (a3 ≤ 8 → wp_X6_beginKeeping T1 (fun T6 => LW (fun kl (vl : Int32) Tl => wb_X6_put_30 a1 a2 a3 kl vl Tl post) 0 T6)) ∧ (¬ a3 ≤ 8 → post (-2) T1))))
set_option maxHeartbeats 4000000 in
set_option maxRecDepth 100000 in
theorem m_X6_put (l : Launch) (G : Gm) (hi : Inj G) (a1 : Int32) (a2 : Int64) (a3 : Int32)  (T : St) (post : Int32 → St → Prop) (hw : wp_X6_put a1 a2 a3 T post) : Mi l yX6_put cX6_put 6 (some .int) 5 121 G [.ref (G.2.2 0), .int a1, .long a2, .int a3] T post := by
  refine sy_head hi (by decide) (Nat.le_of_ble_eq_true rfl) (lv := [(0, .ref (G.2.2 0)), (1, .int a1), (2, .long a2), (4, .int a3)]) rfl ?_
  intro p e s m below meth c C hr hlocks hP hS ls hl
  have C : Cx p s m _ c cX6_put 6 RX6 G := C
  obtain ⟨hx, hb, hml, hown, hg, hK, hN, -⟩ := id C
  unfold wp_X6_put at hw
  refine lv_iload_n hx hb dX6_put_0 rfl (lv_at hl 1 rfl) ?_
  refine sy_goi (sy_runS C hP (m_X6_isNoPlace l G hi _ _ _ hw) mw_X6_isNoPlace w_275 w_274 (rest := []) rfl hl.1 rfl (Nat.le_of_ble_eq_true rfl) ⟨Nat.le_of_ble_eq_true rfl, Nat.le_of_ble_eq_true rfl⟩ dX6_put_1 ⟨Nat.zero_le _, Nat.zero_le _⟩) hS (fun _ h => h) (fun r2 T1 H locs hw hP hS => ?_)
  refine lv_if_ne (tgt := 20) hx hb dX6_put_4 (by decide) (fun hc3 => ?_) (fun hc3 => ?_)
  · have hw := hw.1 hc3
    refine lv_bipush (v := (-2)) hx hb dX6_put_20 (by decide) ?_
    exact sy_iret C hr hlocks hP hS hw dX6_put_22
  · have hw := hw.2 hc3
    refine lv_iload hx hb dX6_put_7 (lv_at hl 3 rfl) ?_
    refine lv_iconst (v := 1) hx hb dX6_put_9 (by decide) ?_
    refine lv_icmp_lt (tgt := 20) hx hb dX6_put_10 (by decide) (fun hc4 => ?_) (fun hc4 => ?_)
    · have hw := hw.1 hc4
      refine lv_bipush (v := (-2)) hx hb dX6_put_20 (by decide) ?_
      exact sy_iret C hr hlocks hP hS hw dX6_put_22
    · have hw := hw.2 hc4
      refine lv_iload hx hb dX6_put_13 (lv_at hl 3 rfl) ?_
      refine lv_bipush (v := 8) hx hb dX6_put_15 (by decide) ?_
      refine lv_icmp_le (tgt := 23) hx hb dX6_put_17 (by decide) (fun hc5 => ?_) (fun hc5 => ?_)
      · have hw := hw.1 hc5
        refine lv_aload_n hx hb dX6_put_23 rfl (lv_at hl 0 rfl) ?_
        refine sy_gov (sy_runV C hP rfl rfl (m_X6_beginKeeping l G hi  _ _ hw) mw_X6_beginKeeping w_279 ws_0 w_277 (rest := []) rfl hl.1 rfl (Nat.le_of_ble_eq_true rfl) ⟨Nat.le_of_ble_eq_true rfl, Nat.le_of_ble_eq_true rfl⟩ dX6_put_24 ⟨Nat.zero_le _, Nat.zero_le _⟩) hS (fun _ h => h) (fun T6 H locs hw hP hS => ?_)
        refine lv_iconst (v := 0) hx hb dX6_put_27 (by decide) ?_
        refine lv_istore (lv' := [(5, .int 0), (0, .ref (G.2.2 0)), (1, .int a1), (2, .long a2), (4, .int a3)]) hx hb dX6_put_28 hl (by decide) rfl (fun ls hl => ?_)
        obtain ⟨I11, u12, hI, hst13⟩ := hw
        have L16 : ∀ (n : Nat) (v5_8 : Int32) (T9 : St), I11 v5_8 T9 → u12 v5_8 T9 < n → ∀ (H : Heap) (locs : List Loc), va_P G.1 sc_cl (wd G T9) H → va_S (SA G) s.heap H locs → ∀ ls : Array Slot, lv_has ls 6 [(5, .int v5_8), (0, .ref (G.2.2 0)), (1, .int a1), (2, .long a2), (4, .int a3)] → W p l e { frames := 5, cells := 0, slots := 0, locals := 121 } s m ([.ref (G.2.2 0), .int a1, .long a2, .int a3] : List Value).toArray below meth c H locs 0 0 (MQ below (va_Qi post (Sy G) (SA G)) ([.ref (G.2.2 0), .int a1, .long a2, .int a3] : List Value).toArray s 0 0 (SA G)) (F0 m 30 ls []) := by
          intro n
          induction n with
          | zero => intro _ _ _ h; exact absurd h (Nat.not_lt_zero _)
          | succ n ih14 =>
            intro v5_8 T9 hI hlt15 H locs hP hS ls hl
            have hw := hst13 v5_8 T9 hI
            unfold wb_X6_put_30 at hw
            refine lv_iload hx hb dX6_put_30 (lv_at hl 0 rfl) ?_
            refine lv_iload hx hb dX6_put_32 (lv_at hl 4 rfl) ?_
            refine lv_icmp_ge (tgt := 71) hx hb dX6_put_34 (by decide) (fun hc17 => ?_) (fun hc17 => ?_)
            · have hw := hw.1 hc17
              refine lv_aload_n hx hb dX6_put_71 rfl (lv_at hl 1 rfl) ?_
              refine sy_goi (sy_runV C hP rfl rfl (m_X6_endKeeping l G hi  _ _ hw) mw_X6_endKeeping w_298 ws_1 w_296 (rest := []) rfl hl.1 rfl (Nat.le_of_ble_eq_true rfl) ⟨Nat.le_of_ble_eq_true rfl, Nat.le_of_ble_eq_true rfl⟩ dX6_put_72 ⟨Nat.zero_le _, Nat.zero_le _⟩) hS (fun _ h => h) (fun r19 T18 H locs hw hP hS => ?_)
              exact sy_iret C hr hlocks hP hS hw dX6_put_75
            · have hw := hw.2 hc17
              refine lv_aload_n hx hb dX6_put_37 rfl (lv_at hl 1 rfl) ?_
              refine gf_X6_21 C hP (o := 0) rfl dX6_put_38 ?_
              refine lv_iload_n hx hb dX6_put_41 rfl (lv_at hl 2 rfl) ?_
              refine lv_iload hx hb dX6_put_42 (lv_at hl 0 rfl) ?_
              refine lv_iadd hx hb dX6_put_44 ?_
              refine lv_lload_n hx hb dX6_put_45 rfl (lv_at hl 3 rfl) ?_
              refine lv_bipush (v := 8) hx hb dX6_put_46 (by decide) ?_
              refine lv_iload hx hb dX6_put_48 (lv_at hl 4 rfl) ?_
              refine lv_iconst (v := 1) hx hb dX6_put_50 (by decide) ?_
              refine lv_isub hx hb dX6_put_51 ?_
              refine lv_iload hx hb dX6_put_52 (lv_at hl 0 rfl) ?_
              refine lv_isub hx hb dX6_put_54 ?_
              refine lv_imul hx hb dX6_put_55 ?_
              refine lv_lushr hx hb dX6_put_56 rfl ?_
              refine lv_l2i hx hb dX6_put_57 rfl ?_
              refine lv_sipush (v := 255) hx hb dX6_put_58 (by decide) ?_
              refine lv_iand hx hb dX6_put_61 ?_
              refine sy_gov (sy_runV C hP rfl rfl (m_X4_become l G hi _ _ _ rfl _ _ hw) mw_X4_become w_293 w_294 w_292 (rest := []) rfl hl.1 rfl (Nat.le_of_ble_eq_true rfl) ⟨Nat.le_of_ble_eq_true rfl, Nat.le_of_ble_eq_true rfl⟩ dX6_put_62 ⟨Nat.zero_le _, Nat.zero_le _⟩) hS (fun _ h => h) (fun T20 H locs hw hP hS => ?_)
              refine lv_iinc (v := v5_8 + 1) (lv' := [(5, .int (v5_8 + 1)), (0, .ref (G.2.2 0)), (1, .int a1), (2, .long a2), (4, .int a3)]) hx hb dX6_put_65 hl (k := 0) rfl rfl (by decide) rfl (fun ls hl => ?_)
              refine lv_goto (tgt := 30) hx hb dX6_put_68 (by decide) ?_
              exact ih14 _ _ hw.1 (Nat.lt_of_lt_of_le hw.2 (Nat.le_of_lt_succ hlt15)) _ _ hP hS ls (lv_sub hl [0, 1, 2, 3, 4] rfl)
        exact L16 _ _ _ hI (Nat.lt_succ_self _) _ _ hP hS ls (lv_sub hl [0, 1, 2, 3, 4] rfl)
      · have hw := hw.2 hc5
        refine lv_bipush (v := (-2)) hx hb dX6_put_20 (by decide) ?_
        exact sy_iret C hr hlocks hP hS hw dX6_put_22
theorem mw_X6_write : MW yX6_write cX6_write 3 (some .int) 2 := ⟨w_333, w_1, by decide +kernel⟩
def wp_X6_write (a1 : Int32) (a2 : Int32) (T : St) (post : Int32 → St → Prop) : Prop :=
  wp_X6_isNoPlace a1 T (fun r2 T1 => (¬ r2 = 0 → post (-2) T1) ∧ (r2 = 0 → (a2 < 0 → post (-2) T1) ∧ (¬ a2 < 0 → (a2 ≤ 255 → wp_X6_beginKeeping T1 (fun T6 => wp_X4_become 4 a1 a2 T6 (fun T8 => wp_X6_endKeeping T8 (fun r11 T10 => post r11 T10)))) ∧ (¬ a2 ≤ 255 → post (-2) T1))))
set_option maxHeartbeats 4000000 in
set_option maxRecDepth 100000 in
theorem m_X6_write (l : Launch) (G : Gm) (hi : Inj G) (a1 : Int32) (a2 : Int32)  (T : St) (post : Int32 → St → Prop) (hw : wp_X6_write a1 a2 T post) : Mi l yX6_write cX6_write 3 (some .int) 5 121 G [.ref (G.2.2 0), .int a1, .int a2] T post := by
  refine sy_head hi (by decide) (Nat.le_of_ble_eq_true rfl) (lv := [(0, .ref (G.2.2 0)), (1, .int a1), (2, .int a2)]) rfl ?_
  intro p e s m below meth c C hr hlocks hP hS ls hl
  have C : Cx p s m _ c cX6_write 3 RX6 G := C
  obtain ⟨hx, hb, hml, hown, hg, hK, hN, -⟩ := id C
  unfold wp_X6_write at hw
  refine lv_iload_n hx hb dX6_write_0 rfl (lv_at hl 1 rfl) ?_
  refine sy_goi (sy_runS C hP (m_X6_isNoPlace l G hi _ _ _ hw) mw_X6_isNoPlace w_275 w_274 (rest := []) rfl hl.1 rfl (Nat.le_of_ble_eq_true rfl) ⟨Nat.le_of_ble_eq_true rfl, Nat.le_of_ble_eq_true rfl⟩ dX6_write_1 ⟨Nat.zero_le _, Nat.zero_le _⟩) hS (fun _ h => h) (fun r2 T1 H locs hw hP hS => ?_)
  refine lv_if_ne (tgt := 18) hx hb dX6_write_4 (by decide) (fun hc3 => ?_) (fun hc3 => ?_)
  · have hw := hw.1 hc3
    refine lv_bipush (v := (-2)) hx hb dX6_write_18 (by decide) ?_
    exact sy_iret C hr hlocks hP hS hw dX6_write_20
  · have hw := hw.2 hc3
    refine lv_iload_n hx hb dX6_write_7 rfl (lv_at hl 2 rfl) ?_
    refine lv_if_lt (tgt := 18) hx hb dX6_write_8 (by decide) (fun hc4 => ?_) (fun hc4 => ?_)
    · have hw := hw.1 hc4
      refine lv_bipush (v := (-2)) hx hb dX6_write_18 (by decide) ?_
      exact sy_iret C hr hlocks hP hS hw dX6_write_20
    · have hw := hw.2 hc4
      refine lv_iload_n hx hb dX6_write_11 rfl (lv_at hl 2 rfl) ?_
      refine lv_sipush (v := 255) hx hb dX6_write_12 (by decide) ?_
      refine lv_icmp_le (tgt := 21) hx hb dX6_write_15 (by decide) (fun hc5 => ?_) (fun hc5 => ?_)
      · have hw := hw.1 hc5
        refine lv_aload_n hx hb dX6_write_21 rfl (lv_at hl 0 rfl) ?_
        refine sy_gov (sy_runV C hP rfl rfl (m_X6_beginKeeping l G hi  _ _ hw) mw_X6_beginKeeping w_279 ws_0 w_277 (rest := []) rfl hl.1 rfl (Nat.le_of_ble_eq_true rfl) ⟨Nat.le_of_ble_eq_true rfl, Nat.le_of_ble_eq_true rfl⟩ dX6_write_22 ⟨Nat.zero_le _, Nat.zero_le _⟩) hS (fun _ h => h) (fun T6 H locs hw hP hS => ?_)
        refine lv_aload_n hx hb dX6_write_25 rfl (lv_at hl 0 rfl) ?_
        refine gf_X6_21 C hP (o := 0) rfl dX6_write_26 ?_
        refine lv_iload_n hx hb dX6_write_29 rfl (lv_at hl 1 rfl) ?_
        refine lv_iload_n hx hb dX6_write_30 rfl (lv_at hl 2 rfl) ?_
        refine sy_gov (sy_runV C hP rfl rfl (m_X4_become l G hi _ _ _ rfl _ _ hw) mw_X4_become w_293 w_294 w_292 (rest := []) rfl hl.1 rfl (Nat.le_of_ble_eq_true rfl) ⟨Nat.le_of_ble_eq_true rfl, Nat.le_of_ble_eq_true rfl⟩ dX6_write_31 ⟨Nat.zero_le _, Nat.zero_le _⟩) hS (fun _ h => h) (fun T8 H locs hw hP hS => ?_)
        refine lv_aload_n hx hb dX6_write_34 rfl (lv_at hl 0 rfl) ?_
        refine sy_goi (sy_runV C hP rfl rfl (m_X6_endKeeping l G hi  _ _ hw) mw_X6_endKeeping w_298 ws_1 w_296 (rest := []) rfl hl.1 rfl (Nat.le_of_ble_eq_true rfl) ⟨Nat.le_of_ble_eq_true rfl, Nat.le_of_ble_eq_true rfl⟩ dX6_write_35 ⟨Nat.zero_le _, Nat.zero_le _⟩) hS (fun _ h => h) (fun r11 T10 H locs hw hP hS => ?_)
        exact sy_iret C hr hlocks hP hS hw dX6_write_38
      · have hw := hw.2 hc5
        refine lv_bipush (v := (-2)) hx hb dX6_write_18 (by decide) ?_
        exact sy_iret C hr hlocks hP hS hw dX6_write_20
theorem mw_X6_routine : MW yX6_routine cX6_routine 2 (some .int) 1 := ⟨w_337, w_1, by decide +kernel⟩
def wp_X6_routine (a1 : Int32) (T : St) (post : Int32 → St → Prop) : Prop :=
  wp_X6_isNoPlace a1 T (fun r2 T1 => (r2 = 0 → (T1.1 0 9 < 10 → vp_in (T1.1 0 9) 10 ∧ (wp_X5_begin (27 + 9 * (T1.1 0 9).toNatClampNeg) a1 T1 (fun T6 => post (((sv T6 0 9 ((T6.1 0 9) + 1)).1 0 9) - 1) (sv T6 0 9 ((T6.1 0 9) + 1))))) ∧ (¬ T1.1 0 9 < 10 → post (-4) T1)) ∧ (¬ r2 = 0 → post (-2) T1))
set_option maxHeartbeats 4000000 in
set_option maxRecDepth 100000 in
theorem m_X6_routine (l : Launch) (G : Gm) (hi : Inj G) (a1 : Int32)  (T : St) (post : Int32 → St → Prop) (hw : wp_X6_routine a1 T post) : Mi l yX6_routine cX6_routine 2 (some .int) 1 21 G [.ref (G.2.2 0), .int a1] T post := by
  refine sy_head hi (by decide) (Nat.le_of_ble_eq_true rfl) (lv := [(0, .ref (G.2.2 0)), (1, .int a1)]) rfl ?_
  intro p e s m below meth c C hr hlocks hP hS ls hl
  have C : Cx p s m _ c cX6_routine 2 RX6 G := C
  obtain ⟨hx, hb, hml, hown, hg, hK, hN, -⟩ := id C
  unfold wp_X6_routine at hw
  refine lv_iload_n hx hb dX6_routine_0 rfl (lv_at hl 1 rfl) ?_
  refine sy_goi (sy_runS C hP (m_X6_isNoPlace l G hi _ _ _ hw) mw_X6_isNoPlace w_275 w_274 (rest := []) rfl hl.1 rfl (Nat.le_of_ble_eq_true rfl) ⟨Nat.le_of_ble_eq_true rfl, Nat.le_of_ble_eq_true rfl⟩ dX6_routine_1 ⟨Nat.zero_le _, Nat.zero_le _⟩) hS (fun _ h => h) (fun r2 T1 H locs hw hP hS => ?_)
  refine lv_if_eq (tgt := 10) hx hb dX6_routine_4 (by decide) (fun hc3 => ?_) (fun hc3 => ?_)
  · have hw := hw.1 hc3
    refine lv_aload_n hx hb dX6_routine_10 rfl (lv_at hl 0 rfl) ?_
    refine gf_X6_92 C hP (o := 0) rfl dX6_routine_11 ?_
    refine lv_bipush (v := 10) hx hb dX6_routine_14 (by decide) ?_
    refine lv_icmp_lt (tgt := 22) hx hb dX6_routine_16 (by decide) (fun hc4 => ?_) (fun hc4 => ?_)
    · have hw := hw.1 hc4
      refine lv_aload_n hx hb dX6_routine_22 rfl (lv_at hl 0 rfl) ?_
      refine gf_X6_27 C hP (o := 0) rfl dX6_routine_23 ?_
      refine lv_aload_n hx hb dX6_routine_26 rfl (lv_at hl 0 rfl) ?_
      refine gf_X6_92 C hP (o := 0) rfl dX6_routine_27 ?_
      obtain ⟨hn5, hw⟩ := hw
      refine sy_aldR C hP hn5 dX6_routine_30 ?_
      refine lv_iload_n hx hb dX6_routine_31 rfl (lv_at hl 1 rfl) ?_
      refine sy_gov (sy_runV C hP (ko_ro hn5) rfl (m_X5_begin l G hi _ _ (ko_ro hn5) _ _ hw) mw_X5_begin w_339 w_340 w_338 (rest := []) rfl hl.1 rfl (Nat.le_of_ble_eq_true rfl) ⟨Nat.le_of_ble_eq_true rfl, Nat.le_of_ble_eq_true rfl⟩ dX6_routine_32 ⟨Nat.zero_le _, Nat.zero_le _⟩) hS (fun _ h => h) (fun T6 H locs hw hP hS => ?_)
      refine lv_aload_n hx hb dX6_routine_35 rfl (lv_at hl 0 rfl) ?_
      refine lv_dup hx hb dX6_routine_36 rfl ?_
      refine gf_X6_92 C hP (o := 0) rfl dX6_routine_37 ?_
      refine lv_iconst (v := 1) hx hb dX6_routine_40 (by decide) ?_
      refine lv_iadd hx hb dX6_routine_41 ?_
      refine pf_X6_92 C hP hS (fun _ h => h) (o := 0) rfl dX6_routine_42 (fun H locs hP hS => ?_)
      refine lv_aload_n hx hb dX6_routine_45 rfl (lv_at hl 0 rfl) ?_
      refine gf_X6_92 C hP (o := 0) rfl dX6_routine_46 ?_
      refine lv_iconst (v := 1) hx hb dX6_routine_49 (by decide) ?_
      refine lv_isub hx hb dX6_routine_50 ?_
      exact sy_iret C hr hlocks hP hS hw dX6_routine_51
    · have hw := hw.2 hc4
      refine lv_bipush (v := (-4)) hx hb dX6_routine_19 (by decide) ?_
      exact sy_iret C hr hlocks hP hS hw dX6_routine_21
  · have hw := hw.2 hc3
    refine lv_bipush (v := (-2)) hx hb dX6_routine_7 (by decide) ?_
    exact sy_iret C hr hlocks hP hS hw dX6_routine_9
theorem mw_X6_giveMember : MW yX6_giveMember cX6_giveMember 2 none 1 := ⟨w_393, w_1, by decide +kernel⟩
def wp_X6_giveMember (a1 : Int32) (T : St) (post : St → Prop) : Prop :=
  vp_in a1 10 ∧ (wp_X1_mark a1 (mb (27 + 9 * a1.toNatClampNeg) ((T).1 (27 + 9 * a1.toNatClampNeg) 0)) 1 T (fun T2 => post (sv T2 4 2 ((T2.1 4 2) ||| ((1 : Int32) <<< (a1 &&& 31))))))
set_option maxHeartbeats 4000000 in
set_option maxRecDepth 100000 in
theorem m_X6_giveMember (l : Launch) (G : Gm) (hi : Inj G) (a1 : Int32)  (T : St) (post : St → Prop) (hw : wp_X6_giveMember a1 T post) : Mv l yX6_giveMember cX6_giveMember 2 none 3 69 G [.ref (G.2.2 0), .int a1] T post := by
  refine sy_head hi (by decide) (Nat.le_of_ble_eq_true rfl) (lv := [(0, .ref (G.2.2 0)), (1, .int a1)]) rfl ?_
  intro p e s m below meth c C hr hlocks hP hS ls hl
  have C : Cx p s m _ c cX6_giveMember 2 RX6 G := C
  obtain ⟨hx, hb, hml, hown, hg, hK, hN, -⟩ := id C
  unfold wp_X6_giveMember at hw
  refine lv_aload_n hx hb dX6_giveMember_0 rfl (lv_at hl 0 rfl) ?_
  refine gf_X6_10 C hP (o := 0) rfl dX6_giveMember_1 ?_
  refine lv_iload_n hx hb dX6_giveMember_4 rfl (lv_at hl 1 rfl) ?_
  refine lv_aload_n hx hb dX6_giveMember_5 rfl (lv_at hl 0 rfl) ?_
  refine gf_X6_27 C hP (o := 0) rfl dX6_giveMember_6 ?_
  refine lv_iload_n hx hb dX6_giveMember_9 rfl (lv_at hl 1 rfl) ?_
  obtain ⟨hn1, hw⟩ := hw
  refine sy_aldR C hP hn1 dX6_giveMember_10 ?_
  refine gf_X6_107 C hP (o := (27 + 9 * a1.toNatClampNeg)) (ko_ro hn1) dX6_giveMember_11 ?_
  refine lv_iconst (v := 1) hx hb dX6_giveMember_14 (by decide) ?_
  refine sy_gov (sy_runV C hP rfl rfl (m_X1_mark l G hi _ _ _ (ko_mb (ko_ro hn1) _) _ _ hw) mw_X1_mark w_313 w_314 w_312 (rest := []) rfl hl.1 rfl (Nat.le_of_ble_eq_true rfl) ⟨Nat.le_of_ble_eq_true rfl, Nat.le_of_ble_eq_true rfl⟩ dX6_giveMember_15 ⟨Nat.zero_le _, Nat.zero_le _⟩) hS (fun _ h => h) (fun T2 H locs hw hP hS => ?_)
  refine lv_aload_n hx hb dX6_giveMember_18 rfl (lv_at hl 0 rfl) ?_
  refine gf_X6_21 C hP (o := 0) rfl dX6_giveMember_19 ?_
  refine lv_dup hx hb dX6_giveMember_22 rfl ?_
  refine gf_X6_195 C hP (o := 4) rfl dX6_giveMember_23 ?_
  refine lv_iconst (v := 1) hx hb dX6_giveMember_26 (by decide) ?_
  refine lv_iload_n hx hb dX6_giveMember_27 rfl (lv_at hl 1 rfl) ?_
  refine lv_ishl hx hb dX6_giveMember_28 ?_
  refine lv_ior hx hb dX6_giveMember_29 ?_
  refine pf_X6_195 C hP hS (fun _ h => h) (o := 4) rfl dX6_giveMember_30 (fun H locs hP hS => ?_)
  exact sy_vret C hr hlocks hP hS hw dX6_giveMember_33
theorem mw_X6_make : MW yX6_make cX6_make 4 (some .int) 0 := ⟨w_345, w_1, by decide +kernel⟩
def wb_X6_make_4  (k4 : (Int32 × Int32) → St → Prop) (v1_1 : Int32) (v2_2 : Int32) (T3 : St) (post : Int32 → St → Prop) : Prop :=
 (T3.1 0 9 ≤ v2_2 → post v1_1 (sv T3 0 11 ((T3.1 0 11) + v1_1))) ∧ (¬ T3.1 0 9 ≤ v2_2 → vp_in v2_2 10 ∧ (wp_X4_hasLive 4 v2_2 T3 (fun r14 T13 => (¬ r14 = 0 → k4 (v1_1, v2_2 + 1) T13) ∧ (r14 = 0 → wp_X5_isWalkedForGood (27 + 9 * v2_2.toNatClampNeg) T13 (fun r17 T16 => (¬ r17 = 0 → k4 (v1_1, v2_2 + 1) T16) ∧ (r17 = 0 → wp_X3_fill (mb (27 + 9 * v2_2.toNatClampNeg) ((T16).1 (27 + 9 * v2_2.toNatClampNeg) 0)) (4 + 1) (T16.1 (27 + 9 * v2_2.toNatClampNeg) 3) T16 (fun r20 T19 => (r20 = 0 → k4 (v1_1, v2_2 + 1) T19) ∧ (¬ r20 = 0 → wp_X6_giveMember v2_2 T19 (fun T22 => k4 (v1_1 + 1, v2_2 + 1) T22)))))))))
def wp_X6_make (T : St) (post : Int32 → St → Prop) : Prop :=
  LW (fun kl (vl : Int32 × Int32) Tl => wb_X6_make_4 kl vl.1 vl.2 Tl post) (0, 0) T
set_option maxHeartbeats 4000000 in
set_option maxRecDepth 100000 in
theorem m_X6_make (l : Launch) (G : Gm) (hi : Inj G)   (T : St) (post : Int32 → St → Prop) (hw : wp_X6_make T post) : Mi l yX6_make cX6_make 4 (some .int) 4 92 G [.ref (G.2.2 0)] T post := by
  refine sy_head hi (by decide) (Nat.le_of_ble_eq_true rfl) (lv := [(0, .ref (G.2.2 0))]) rfl ?_
  intro p e s m below meth c C hr hlocks hP hS ls hl
  have C : Cx p s m _ c cX6_make 4 RX6 G := C
  obtain ⟨hx, hb, hml, hown, hg, hK, hN, -⟩ := id C
  unfold wp_X6_make at hw
  refine lv_iconst (v := 0) hx hb dX6_make_0 (by decide) ?_
  refine lv_istore_n (lv' := [(1, .int 0), (0, .ref (G.2.2 0))]) hx hb dX6_make_1 rfl hl (by decide) rfl (fun ls hl => ?_)
  refine lv_iconst (v := 0) hx hb dX6_make_2 (by decide) ?_
  refine lv_istore_n (lv' := [(2, .int 0), (1, .int 0), (0, .ref (G.2.2 0))]) hx hb dX6_make_3 rfl hl (by decide) rfl (fun ls hl => ?_)
  obtain ⟨I5, u6, hI, hst7⟩ := hw
  have L10 : ∀ (n : Nat) (v1_1 : Int32) (v2_2 : Int32) (T3 : St), I5 (v1_1, v2_2) T3 → u6 (v1_1, v2_2) T3 < n → ∀ (H : Heap) (locs : List Loc), va_P G.1 sc_cl (wd G T3) H → va_S (SA G) s.heap H locs → ∀ ls : Array Slot, lv_has ls 4 [(2, .int v2_2), (1, .int v1_1), (0, .ref (G.2.2 0))] → W p l e { frames := 4, cells := 0, slots := 0, locals := 92 } s m ([.ref (G.2.2 0)] : List Value).toArray below meth c H locs 0 0 (MQ below (va_Qi post (Sy G) (SA G)) ([.ref (G.2.2 0)] : List Value).toArray s 0 0 (SA G)) (F0 m 4 ls []) := by
    intro n
    induction n with
    | zero => intro _ _ _ _ h; exact absurd h (Nat.not_lt_zero _)
    | succ n ih8 =>
      intro v1_1 v2_2 T3 hI hlt9 H locs hP hS ls hl
      have hw := hst7 (v1_1, v2_2) T3 hI
      unfold wb_X6_make_4 at hw
      refine lv_iload_n hx hb dX6_make_4 rfl (lv_at hl 0 rfl) ?_
      refine lv_aload_n hx hb dX6_make_5 rfl (lv_at hl 2 rfl) ?_
      refine gf_X6_92 C hP (o := 0) rfl dX6_make_6 ?_
      refine lv_icmp_ge (tgt := 72) hx hb dX6_make_9 (by decide) (fun hc11 => ?_) (fun hc11 => ?_)
      · have hw := hw.1 hc11
        refine lv_aload_n hx hb dX6_make_72 rfl (lv_at hl 2 rfl) ?_
        refine lv_dup hx hb dX6_make_73 rfl ?_
        refine gf_X6_120 C hP (o := 0) rfl dX6_make_74 ?_
        refine lv_iload_n hx hb dX6_make_77 rfl (lv_at hl 1 rfl) ?_
        refine lv_iadd hx hb dX6_make_78 ?_
        refine pf_X6_120 C hP hS (fun _ h => h) (o := 0) rfl dX6_make_79 (fun H locs hP hS => ?_)
        refine lv_iload_n hx hb dX6_make_82 rfl (lv_at hl 1 rfl) ?_
        exact sy_iret C hr hlocks hP hS hw dX6_make_83
      · have hw := hw.2 hc11
        refine lv_aload_n hx hb dX6_make_12 rfl (lv_at hl 2 rfl) ?_
        refine gf_X6_27 C hP (o := 0) rfl dX6_make_13 ?_
        refine lv_iload_n hx hb dX6_make_16 rfl (lv_at hl 0 rfl) ?_
        obtain ⟨hn12, hw⟩ := hw
        refine sy_aldR C hP hn12 dX6_make_17 ?_
        refine lv_astore_n (lv' := [(3, .ref (G.2.2 (27 + 9 * v2_2.toNatClampNeg))), (2, .int v2_2), (1, .int v1_1), (0, .ref (G.2.2 0))]) hx hb dX6_make_18 rfl hl (by decide) rfl (fun ls hl => ?_)
        refine lv_aload_n hx hb dX6_make_19 rfl (lv_at hl 3 rfl) ?_
        refine gf_X6_21 C hP (o := 0) rfl dX6_make_20 ?_
        refine lv_iload_n hx hb dX6_make_23 rfl (lv_at hl 1 rfl) ?_
        refine sy_goi (sy_runV C hP rfl rfl (m_X4_hasLive l G hi _ _ rfl _ _ hw) mw_X4_hasLive w_347 w_348 w_346 (rest := []) rfl hl.1 rfl (Nat.le_of_ble_eq_true rfl) ⟨Nat.le_of_ble_eq_true rfl, Nat.le_of_ble_eq_true rfl⟩ dX6_make_24 ⟨Nat.zero_le _, Nat.zero_le _⟩) hS (fun _ h => h) (fun r14 T13 H locs hw hP hS => ?_)
        refine lv_if_ne (tgt := 66) hx hb dX6_make_27 (by decide) (fun hc15 => ?_) (fun hc15 => ?_)
        · have hw := hw.1 hc15
          refine lv_iinc (v := v2_2 + 1) (lv' := [(2, .int (v2_2 + 1)), (3, .ref (G.2.2 (27 + 9 * v2_2.toNatClampNeg))), (1, .int v1_1), (0, .ref (G.2.2 0))]) hx hb dX6_make_66 hl (k := 1) rfl rfl (by decide) rfl (fun ls hl => ?_)
          refine lv_goto (tgt := 4) hx hb dX6_make_69 (by decide) ?_
          exact ih8 _ _ _ hw.1 (Nat.lt_of_lt_of_le hw.2 (Nat.le_of_lt_succ hlt9)) _ _ hP hS ls (lv_sub hl [0, 2, 3] rfl)
        · have hw := hw.2 hc15
          refine lv_aload_n hx hb dX6_make_30 rfl (lv_at hl 0 rfl) ?_
          refine sy_goi (sy_runV C hP (ko_ro hn12) rfl (m_X5_isWalkedForGood l G hi _ (ko_ro hn12) _ _ hw) mw_X5_isWalkedForGood w_351 w_352 w_350 (rest := []) rfl hl.1 rfl (Nat.le_of_ble_eq_true rfl) ⟨Nat.le_of_ble_eq_true rfl, Nat.le_of_ble_eq_true rfl⟩ dX6_make_31 ⟨Nat.zero_le _, Nat.zero_le _⟩) hS (fun _ h => h) (fun r17 T16 H locs hw hP hS => ?_)
          refine lv_if_ne (tgt := 66) hx hb dX6_make_34 (by decide) (fun hc18 => ?_) (fun hc18 => ?_)
          · have hw := hw.1 hc18
            refine lv_iinc (v := v2_2 + 1) (lv' := [(2, .int (v2_2 + 1)), (3, .ref (G.2.2 (27 + 9 * v2_2.toNatClampNeg))), (1, .int v1_1), (0, .ref (G.2.2 0))]) hx hb dX6_make_66 hl (k := 1) rfl rfl (by decide) rfl (fun ls hl => ?_)
            refine lv_goto (tgt := 4) hx hb dX6_make_69 (by decide) ?_
            exact ih8 _ _ _ hw.1 (Nat.lt_of_lt_of_le hw.2 (Nat.le_of_lt_succ hlt9)) _ _ hP hS ls (lv_sub hl [0, 2, 3] rfl)
          · have hw := hw.2 hc18
            refine lv_aload_n hx hb dX6_make_37 rfl (lv_at hl 0 rfl) ?_
            refine gf_X6_107 C hP (o := (27 + 9 * v2_2.toNatClampNeg)) (ko_ro hn12) dX6_make_38 ?_
            refine lv_aload_n hx hb dX6_make_41 rfl (lv_at hl 3 rfl) ?_
            refine gf_X6_21 C hP (o := 0) rfl dX6_make_42 ?_
            refine gf_X6_88 C hP (o := 4) rfl dX6_make_45 ?_
            refine lv_aload_n hx hb dX6_make_48 rfl (lv_at hl 0 rfl) ?_
            refine gf_X6_110 C hP (o := (27 + 9 * v2_2.toNatClampNeg)) (ko_ro hn12) dX6_make_49 ?_
            refine sy_goi (sy_runV C hP (ko_mb (ko_ro hn12) _) rfl (m_X3_fill l G hi _ _ _ (ko_mb (ko_ro hn12) _) (ko_by rfl).1 (ko_by rfl).2 _ _ hw) mw_X3_fill w_355 w_356 w_354 (rest := []) rfl hl.1 rfl (Nat.le_of_ble_eq_true rfl) ⟨Nat.le_of_ble_eq_true rfl, Nat.le_of_ble_eq_true rfl⟩ dX6_make_52 ⟨Nat.zero_le _, Nat.zero_le _⟩) hS (fun _ h => h) (fun r20 T19 H locs hw hP hS => ?_)
            refine lv_if_eq (tgt := 66) hx hb dX6_make_55 (by decide) (fun hc21 => ?_) (fun hc21 => ?_)
            · have hw := hw.1 hc21
              refine lv_iinc (v := v2_2 + 1) (lv' := [(2, .int (v2_2 + 1)), (3, .ref (G.2.2 (27 + 9 * v2_2.toNatClampNeg))), (1, .int v1_1), (0, .ref (G.2.2 0))]) hx hb dX6_make_66 hl (k := 1) rfl rfl (by decide) rfl (fun ls hl => ?_)
              refine lv_goto (tgt := 4) hx hb dX6_make_69 (by decide) ?_
              exact ih8 _ _ _ hw.1 (Nat.lt_of_lt_of_le hw.2 (Nat.le_of_lt_succ hlt9)) _ _ hP hS ls (lv_sub hl [0, 2, 3] rfl)
            · have hw := hw.2 hc21
              refine lv_aload_n hx hb dX6_make_58 rfl (lv_at hl 3 rfl) ?_
              refine lv_iload_n hx hb dX6_make_59 rfl (lv_at hl 1 rfl) ?_
              refine sy_gov (sy_runV C hP rfl rfl (m_X6_giveMember l G hi _ _ _ hw) mw_X6_giveMember w_392 ws_9 w_390 (rest := []) rfl hl.1 rfl (Nat.le_of_ble_eq_true rfl) ⟨Nat.le_of_ble_eq_true rfl, Nat.le_of_ble_eq_true rfl⟩ dX6_make_60 ⟨Nat.zero_le _, Nat.zero_le _⟩) hS (fun _ h => h) (fun T22 H locs hw hP hS => ?_)
              refine lv_iinc (v := v1_1 + 1) (lv' := [(1, .int (v1_1 + 1)), (3, .ref (G.2.2 (27 + 9 * v2_2.toNatClampNeg))), (2, .int v2_2), (0, .ref (G.2.2 0))]) hx hb dX6_make_63 hl (k := 2) rfl rfl (by decide) rfl (fun ls hl => ?_)
              refine lv_iinc (v := v2_2 + 1) (lv' := [(2, .int (v2_2 + 1)), (1, .int (v1_1 + 1)), (3, .ref (G.2.2 (27 + 9 * v2_2.toNatClampNeg))), (0, .ref (G.2.2 0))]) hx hb dX6_make_66 hl (k := 2) rfl rfl (by decide) rfl (fun ls hl => ?_)
              refine lv_goto (tgt := 4) hx hb dX6_make_69 (by decide) ?_
              exact ih8 _ _ _ hw.1 (Nat.lt_of_lt_of_le hw.2 (Nat.le_of_lt_succ hlt9)) _ _ hP hS ls (lv_sub hl [0, 1, 3] rfl)
  exact L10 _ _ _ _ hI (Nat.lt_succ_self _) _ _ hP hS ls (lv_sub hl [0, 1, 2] rfl)
theorem mw_X6_isNoRoutine : MW yX6_isNoRoutine cX6_isNoRoutine 2 (some .boolean) 1 := ⟨w_401, w_1, by decide +kernel⟩
def wp_X6_isNoRoutine (a1 : Int32) (T : St) (post : Int32 → St → Prop) : Prop :=
  (a1 < 0 → post 1 T) ∧ (¬ a1 < 0 → (a1 < T.1 0 9 → post 0 T) ∧ (¬ a1 < T.1 0 9 → post 1 T))
set_option maxHeartbeats 4000000 in
set_option maxRecDepth 100000 in
theorem m_X6_isNoRoutine (l : Launch) (G : Gm) (hi : Inj G) (a1 : Int32)  (T : St) (post : Int32 → St → Prop) (hw : wp_X6_isNoRoutine a1 T post) : Mi l yX6_isNoRoutine cX6_isNoRoutine 2 (some .boolean) 0 0 G [.ref (G.2.2 0), .int a1] T post := by
  refine sy_head hi (by decide) (Nat.le_of_ble_eq_true rfl) (lv := [(0, .ref (G.2.2 0)), (1, .int a1)]) rfl ?_
  intro p e s m below meth c C hr hlocks hP hS ls hl
  have C : Cx p s m _ c cX6_isNoRoutine 2 RX6 G := C
  obtain ⟨hx, hb, hml, hown, hg, hK, hN, -⟩ := id C
  unfold wp_X6_isNoRoutine at hw
  refine lv_iload_n hx hb dX6_isNoRoutine_0 rfl (lv_at hl 1 rfl) ?_
  refine lv_if_lt (tgt := 12) hx hb dX6_isNoRoutine_1 (by decide) (fun hc1 => ?_) (fun hc1 => ?_)
  · have hw := hw.1 hc1
    refine lv_iconst (v := 1) hx hb dX6_isNoRoutine_12 (by decide) ?_
    refine lv_goto (tgt := 17) hx hb dX6_isNoRoutine_13 (by decide) ?_
    exact sy_zret C hr hlocks hP hS rfl hw dX6_isNoRoutine_17
  · have hw := hw.2 hc1
    refine lv_iload_n hx hb dX6_isNoRoutine_4 rfl (lv_at hl 1 rfl) ?_
    refine lv_aload_n hx hb dX6_isNoRoutine_5 rfl (lv_at hl 0 rfl) ?_
    refine gf_X6_92 C hP (o := 0) rfl dX6_isNoRoutine_6 ?_
    refine lv_icmp_lt (tgt := 16) hx hb dX6_isNoRoutine_9 (by decide) (fun hc2 => ?_) (fun hc2 => ?_)
    · have hw := hw.1 hc2
      refine lv_iconst (v := 0) hx hb dX6_isNoRoutine_16 (by decide) ?_
      exact sy_zret C hr hlocks hP hS rfl hw dX6_isNoRoutine_17
    · have hw := hw.2 hc2
      refine lv_iconst (v := 1) hx hb dX6_isNoRoutine_12 (by decide) ?_
      refine lv_goto (tgt := 17) hx hb dX6_isNoRoutine_13 (by decide) ?_
      exact sy_zret C hr hlocks hP hS rfl hw dX6_isNoRoutine_17
theorem mw_X6_member : MW yX6_member cX6_member 5 (some .int) 2 := ⟨w_397, w_1, by decide +kernel⟩
def wp_X6_member (a1 : Int32) (a2 : Int32) (T : St) (post : Int32 → St → Prop) : Prop :=
  wp_X6_isNoRoutine a1 T (fun r2 T1 => (r2 = 0 → vp_in a1 10 ∧ (wp_X4_hasLive 4 a1 T1 (fun r6 T5 => (a2 = 0 → (r6 = 0 → post 0 T5) ∧ (¬ r6 = 0 → post 1 T5)) ∧ (¬ a2 = 0 → (a2 = 1 → (r6 = 0 → post 0 T5) ∧ (¬ r6 = 0 → post (T5.1 (mb (27 + 9 * a1.toNatClampNeg) ((T5).1 (27 + 9 * a1.toNatClampNeg) 0)) 3) T5)) ∧ (¬ a2 = 1 → (a2 = 2 → (r6 = 0 → post 0 T5) ∧ (¬ r6 = 0 → wp_X3_placeCount (mb (27 + 9 * a1.toNatClampNeg) ((T5).1 (27 + 9 * a1.toNatClampNeg) 0)) T5 (fun r14 T13 => post r14 T13))) ∧ (¬ a2 = 2 → (a2 = 3 → post (T5.1 (27 + 9 * a1.toNatClampNeg) 4) T5) ∧ (¬ a2 = 3 → (a2 = 4 → wp_X5_isWalkedForGood (27 + 9 * a1.toNatClampNeg) T5 (fun r18 T17 => (r18 = 0 → post 0 T17) ∧ (¬ r18 = 0 → post 1 T17))) ∧ (¬ a2 = 4 → (a2 = 5 → (T5.1 (27 + 9 * a1.toNatClampNeg) 2 = 0 → post 0 T5) ∧ (¬ T5.1 (27 + 9 * a1.toNatClampNeg) 2 = 0 → post 1 T5)) ∧ (¬ a2 = 5 → (a2 = 6 → post (T5.1 (27 + 9 * a1.toNatClampNeg) 3) T5) ∧ (¬ a2 = 6 → post (-2) T5)))))))))) ∧ (¬ r2 = 0 → post (-1) T1))
set_option maxHeartbeats 4000000 in
set_option maxRecDepth 100000 in
theorem m_X6_member (l : Launch) (G : Gm) (hi : Inj G) (a1 : Int32) (a2 : Int32)  (T : St) (post : Int32 → St → Prop) (hw : wp_X6_member a1 a2 T post) : Mi l yX6_member cX6_member 5 (some .int) 3 62 G [.ref (G.2.2 0), .int a1, .int a2] T post := by
  refine sy_head hi (by decide) (Nat.le_of_ble_eq_true rfl) (lv := [(0, .ref (G.2.2 0)), (1, .int a1), (2, .int a2)]) rfl ?_
  intro p e s m below meth c C hr hlocks hP hS ls hl
  have C : Cx p s m _ c cX6_member 5 RX6 G := C
  obtain ⟨hx, hb, hml, hown, hg, hK, hN, -⟩ := id C
  unfold wp_X6_member at hw
  refine lv_aload_n hx hb dX6_member_0 rfl (lv_at hl 0 rfl) ?_
  refine lv_iload_n hx hb dX6_member_1 rfl (lv_at hl 1 rfl) ?_
  refine sy_goi (sy_runV C hP rfl rfl (m_X6_isNoRoutine l G hi _ _ _ hw) mw_X6_isNoRoutine w_400 ws_10 w_398 (rest := []) rfl hl.1 rfl (Nat.le_of_ble_eq_true rfl) ⟨Nat.le_of_ble_eq_true rfl, Nat.le_of_ble_eq_true rfl⟩ dX6_member_2 ⟨Nat.zero_le _, Nat.zero_le _⟩) hS (fun _ h => h) (fun r2 T1 H locs hw hP hS => ?_)
  refine lv_if_eq (tgt := 10) hx hb dX6_member_5 (by decide) (fun hc3 => ?_) (fun hc3 => ?_)
  · have hw := hw.1 hc3
    refine lv_aload_n hx hb dX6_member_10 rfl (lv_at hl 0 rfl) ?_
    refine gf_X6_27 C hP (o := 0) rfl dX6_member_11 ?_
    refine lv_iload_n hx hb dX6_member_14 rfl (lv_at hl 1 rfl) ?_
    obtain ⟨hn4, hw⟩ := hw
    refine sy_aldR C hP hn4 dX6_member_15 ?_
    refine lv_astore_n (lv' := [(3, .ref (G.2.2 (27 + 9 * a1.toNatClampNeg))), (0, .ref (G.2.2 0)), (1, .int a1), (2, .int a2)]) hx hb dX6_member_16 rfl hl (by decide) rfl (fun ls hl => ?_)
    refine lv_aload_n hx hb dX6_member_17 rfl (lv_at hl 1 rfl) ?_
    refine gf_X6_21 C hP (o := 0) rfl dX6_member_18 ?_
    refine lv_iload_n hx hb dX6_member_21 rfl (lv_at hl 2 rfl) ?_
    refine sy_goi (sy_runV C hP rfl rfl (m_X4_hasLive l G hi _ _ rfl _ _ hw) mw_X4_hasLive w_347 w_348 w_346 (rest := []) rfl hl.1 rfl (Nat.le_of_ble_eq_true rfl) ⟨Nat.le_of_ble_eq_true rfl, Nat.le_of_ble_eq_true rfl⟩ dX6_member_22 ⟨Nat.zero_le _, Nat.zero_le _⟩) hS (fun _ h => h) (fun r6 T5 H locs hw hP hS => ?_)
    refine lv_istore (lv' := [(4, .int r6), (3, .ref (G.2.2 (27 + 9 * a1.toNatClampNeg))), (0, .ref (G.2.2 0)), (1, .int a1), (2, .int a2)]) hx hb dX6_member_25 hl (by decide) rfl (fun ls hl => ?_)
    refine lv_iload_n hx hb dX6_member_27 rfl (lv_at hl 4 rfl) ?_
    by_cases hs7 : a2 = 0
    · have hw := hw.1 hs7
      refine lv_tableIn (off := 44) (tgt := 72) hx hb dX6_member_28 (by rw [hs7]; decide) (by rw [hs7]; decide) (by rw [hs7]; rfl) (by decide) ?_
      refine lv_iload hx hb dX6_member_72 (lv_at hl 0 rfl) ?_
      refine lv_if_eq (tgt := 81) hx hb dX6_member_74 (by decide) (fun hc8 => ?_) (fun hc8 => ?_)
      · have hw := hw.1 hc8
        refine lv_iconst (v := 0) hx hb dX6_member_81 (by decide) ?_
        exact sy_iret C hr hlocks hP hS hw dX6_member_82
      · have hw := hw.2 hc8
        refine lv_iconst (v := 1) hx hb dX6_member_77 (by decide) ?_
        refine lv_goto (tgt := 82) hx hb dX6_member_78 (by decide) ?_
        exact sy_iret C hr hlocks hP hS hw dX6_member_82
    · have hw := hw.2 hs7
      by_cases hs9 : a2 = 1
      · have hw := hw.1 hs9
        refine lv_tableIn (off := 55) (tgt := 83) hx hb dX6_member_28 (by rw [hs9]; decide) (by rw [hs9]; decide) (by rw [hs9]; rfl) (by decide) ?_
        refine lv_iload hx hb dX6_member_83 (lv_at hl 0 rfl) ?_
        refine lv_if_eq (tgt := 98) hx hb dX6_member_85 (by decide) (fun hc10 => ?_) (fun hc10 => ?_)
        · have hw := hw.1 hc10
          refine lv_iconst (v := 0) hx hb dX6_member_98 (by decide) ?_
          exact sy_iret C hr hlocks hP hS hw dX6_member_99
        · have hw := hw.2 hc10
          refine lv_aload_n hx hb dX6_member_88 rfl (lv_at hl 1 rfl) ?_
          refine gf_X6_107 C hP (o := (27 + 9 * a1.toNatClampNeg)) (ko_ro hn4) dX6_member_89 ?_
          refine gf_X6_126 C hP (o := (mb (27 + 9 * a1.toNatClampNeg) ((T5).1 (27 + 9 * a1.toNatClampNeg) 0))) (ko_mb (ko_ro hn4) _) dX6_member_92 ?_
          refine lv_goto (tgt := 99) hx hb dX6_member_95 (by decide) ?_
          exact sy_iret C hr hlocks hP hS hw dX6_member_99
      · have hw := hw.2 hs9
        by_cases hs11 : a2 = 2
        · have hw := hw.1 hs11
          refine lv_tableIn (off := 72) (tgt := 100) hx hb dX6_member_28 (by rw [hs11]; decide) (by rw [hs11]; decide) (by rw [hs11]; rfl) (by decide) ?_
          refine lv_iload hx hb dX6_member_100 (lv_at hl 0 rfl) ?_
          refine lv_if_eq (tgt := 115) hx hb dX6_member_102 (by decide) (fun hc12 => ?_) (fun hc12 => ?_)
          · have hw := hw.1 hc12
            refine lv_iconst (v := 0) hx hb dX6_member_115 (by decide) ?_
            exact sy_iret C hr hlocks hP hS hw dX6_member_116
          · have hw := hw.2 hc12
            refine lv_aload_n hx hb dX6_member_105 rfl (lv_at hl 1 rfl) ?_
            refine gf_X6_107 C hP (o := (27 + 9 * a1.toNatClampNeg)) (ko_ro hn4) dX6_member_106 ?_
            refine sy_goi (sy_runV C hP (ko_mb (ko_ro hn4) _) rfl (m_X3_placeCount l G hi _ (ko_mb (ko_ro hn4) _) _ _ hw) mw_X3_placeCount w_403 w_404 w_402 (rest := []) rfl hl.1 rfl (Nat.le_of_ble_eq_true rfl) ⟨Nat.le_of_ble_eq_true rfl, Nat.le_of_ble_eq_true rfl⟩ dX6_member_109 ⟨Nat.zero_le _, Nat.zero_le _⟩) hS (fun _ h => h) (fun r14 T13 H locs hw hP hS => ?_)
            refine lv_goto (tgt := 116) hx hb dX6_member_112 (by decide) ?_
            exact sy_iret C hr hlocks hP hS hw dX6_member_116
        · have hw := hw.2 hs11
          by_cases hs15 : a2 = 3
          · have hw := hw.1 hs15
            refine lv_tableIn (off := 89) (tgt := 117) hx hb dX6_member_28 (by rw [hs15]; decide) (by rw [hs15]; decide) (by rw [hs15]; rfl) (by decide) ?_
            refine lv_aload_n hx hb dX6_member_117 rfl (lv_at hl 1 rfl) ?_
            refine gf_X6_132 C hP (o := (27 + 9 * a1.toNatClampNeg)) (ko_ro hn4) dX6_member_118 ?_
            exact sy_iret C hr hlocks hP hS hw dX6_member_121
          · have hw := hw.2 hs15
            by_cases hs16 : a2 = 4
            · have hw := hw.1 hs16
              refine lv_tableIn (off := 94) (tgt := 122) hx hb dX6_member_28 (by rw [hs16]; decide) (by rw [hs16]; decide) (by rw [hs16]; rfl) (by decide) ?_
              refine lv_aload_n hx hb dX6_member_122 rfl (lv_at hl 1 rfl) ?_
              refine sy_goi (sy_runV C hP (ko_ro hn4) rfl (m_X5_isWalkedForGood l G hi _ (ko_ro hn4) _ _ hw) mw_X5_isWalkedForGood w_351 w_352 w_350 (rest := []) rfl hl.1 rfl (Nat.le_of_ble_eq_true rfl) ⟨Nat.le_of_ble_eq_true rfl, Nat.le_of_ble_eq_true rfl⟩ dX6_member_123 ⟨Nat.zero_le _, Nat.zero_le _⟩) hS (fun _ h => h) (fun r18 T17 H locs hw hP hS => ?_)
              refine lv_if_eq (tgt := 133) hx hb dX6_member_126 (by decide) (fun hc19 => ?_) (fun hc19 => ?_)
              · have hw := hw.1 hc19
                refine lv_iconst (v := 0) hx hb dX6_member_133 (by decide) ?_
                exact sy_iret C hr hlocks hP hS hw dX6_member_134
              · have hw := hw.2 hc19
                refine lv_iconst (v := 1) hx hb dX6_member_129 (by decide) ?_
                refine lv_goto (tgt := 134) hx hb dX6_member_130 (by decide) ?_
                exact sy_iret C hr hlocks hP hS hw dX6_member_134
            · have hw := hw.2 hs16
              by_cases hs20 : a2 = 5
              · have hw := hw.1 hs20
                refine lv_tableIn (off := 107) (tgt := 135) hx hb dX6_member_28 (by rw [hs20]; decide) (by rw [hs20]; decide) (by rw [hs20]; rfl) (by decide) ?_
                refine lv_aload_n hx hb dX6_member_135 rfl (lv_at hl 1 rfl) ?_
                refine gf_X6_135 C hP (o := (27 + 9 * a1.toNatClampNeg)) (ko_ro hn4) dX6_member_136 ?_
                refine lv_if_eq (tgt := 146) hx hb dX6_member_139 (by decide) (fun hc21 => ?_) (fun hc21 => ?_)
                · have hw := hw.1 hc21
                  refine lv_iconst (v := 0) hx hb dX6_member_146 (by decide) ?_
                  exact sy_iret C hr hlocks hP hS hw dX6_member_147
                · have hw := hw.2 hc21
                  refine lv_iconst (v := 1) hx hb dX6_member_142 (by decide) ?_
                  refine lv_goto (tgt := 147) hx hb dX6_member_143 (by decide) ?_
                  exact sy_iret C hr hlocks hP hS hw dX6_member_147
              · have hw := hw.2 hs20
                by_cases hs22 : a2 = 6
                · have hw := hw.1 hs22
                  refine lv_tableIn (off := 120) (tgt := 148) hx hb dX6_member_28 (by rw [hs22]; decide) (by rw [hs22]; decide) (by rw [hs22]; rfl) (by decide) ?_
                  refine lv_aload_n hx hb dX6_member_148 rfl (lv_at hl 1 rfl) ?_
                  refine gf_X6_110 C hP (o := (27 + 9 * a1.toNatClampNeg)) (ko_ro hn4) dX6_member_149 ?_
                  exact sy_iret C hr hlocks hP hS hw dX6_member_152
                · have hw := hw.2 hs22
                  have ahs7 : (a2).toInt ≠ 0 := ne_toI hs7
                  have ahs9 : (a2).toInt ≠ 1 := ne_toI hs9
                  have ahs11 : (a2).toInt ≠ 2 := ne_toI hs11
                  have ahs15 : (a2).toInt ≠ 3 := ne_toI hs15
                  have ahs16 : (a2).toInt ≠ 4 := ne_toI hs16
                  have ahs20 : (a2).toInt ≠ 5 := ne_toI hs20
                  have ahs22 : (a2).toInt ≠ 6 := ne_toI hs22
                  refine lv_tableOut (tgt := 153) hx hb dX6_member_28 (by omega) (by decide) ?_
                  refine lv_bipush (v := (-2)) hx hb dX6_member_153 (by decide) ?_
                  exact sy_iret C hr hlocks hP hS hw dX6_member_155
  · have hw := hw.2 hc3
    refine lv_iconst (v := (-1)) hx hb dX6_member_8 (by decide) ?_
    exact sy_iret C hr hlocks hP hS hw dX6_member_9
theorem mw_X6_makeable : MW yX6_makeable cX6_makeable 2 (some .int) 1 := ⟨w_409, w_1, by decide +kernel⟩
def wp_X6_makeable (a1 : Int32) (T : St) (post : Int32 → St → Prop) : Prop :=
  wp_X6_isNoRoutine a1 T (fun r2 T1 => (r2 = 0 → vp_in a1 10 ∧ (wp_X3_fill 23 (4 + 1) (T1.1 (27 + 9 * a1.toNatClampNeg) 3) T1 (fun r6 T5 => (r6 = 0 → post 0 T5) ∧ (¬ r6 = 0 → post 1 T5)))) ∧ (¬ r2 = 0 → post (-1) T1))
set_option maxHeartbeats 4000000 in
set_option maxRecDepth 100000 in
theorem m_X6_makeable (l : Launch) (G : Gm) (hi : Inj G) (a1 : Int32)  (T : St) (post : Int32 → St → Prop) (hw : wp_X6_makeable a1 T post) : Mi l yX6_makeable cX6_makeable 2 (some .int) 4 92 G [.ref (G.2.2 0), .int a1] T post := by
  refine sy_head hi (by decide) (Nat.le_of_ble_eq_true rfl) (lv := [(0, .ref (G.2.2 0)), (1, .int a1)]) rfl ?_
  intro p e s m below meth c C hr hlocks hP hS ls hl
  have C : Cx p s m _ c cX6_makeable 2 RX6 G := C
  obtain ⟨hx, hb, hml, hown, hg, hK, hN, -⟩ := id C
  unfold wp_X6_makeable at hw
  refine lv_aload_n hx hb dX6_makeable_0 rfl (lv_at hl 0 rfl) ?_
  refine lv_iload_n hx hb dX6_makeable_1 rfl (lv_at hl 1 rfl) ?_
  refine sy_goi (sy_runV C hP rfl rfl (m_X6_isNoRoutine l G hi _ _ _ hw) mw_X6_isNoRoutine w_400 ws_10 w_398 (rest := []) rfl hl.1 rfl (Nat.le_of_ble_eq_true rfl) ⟨Nat.le_of_ble_eq_true rfl, Nat.le_of_ble_eq_true rfl⟩ dX6_makeable_2 ⟨Nat.zero_le _, Nat.zero_le _⟩) hS (fun _ h => h) (fun r2 T1 H locs hw hP hS => ?_)
  refine lv_if_eq (tgt := 10) hx hb dX6_makeable_5 (by decide) (fun hc3 => ?_) (fun hc3 => ?_)
  · have hw := hw.1 hc3
    refine lv_aload_n hx hb dX6_makeable_10 rfl (lv_at hl 0 rfl) ?_
    refine gf_X6_46 C hP (o := 0) rfl dX6_makeable_11 ?_
    refine lv_aload_n hx hb dX6_makeable_14 rfl (lv_at hl 0 rfl) ?_
    refine gf_X6_21 C hP (o := 0) rfl dX6_makeable_15 ?_
    refine gf_X6_88 C hP (o := 4) rfl dX6_makeable_18 ?_
    refine lv_aload_n hx hb dX6_makeable_21 rfl (lv_at hl 0 rfl) ?_
    refine gf_X6_27 C hP (o := 0) rfl dX6_makeable_22 ?_
    refine lv_iload_n hx hb dX6_makeable_25 rfl (lv_at hl 1 rfl) ?_
    obtain ⟨hn4, hw⟩ := hw
    refine sy_aldR C hP hn4 dX6_makeable_26 ?_
    refine gf_X6_110 C hP (o := (27 + 9 * a1.toNatClampNeg)) (ko_ro hn4) dX6_makeable_27 ?_
    refine sy_goi (sy_runV C hP rfl rfl (m_X3_fill l G hi _ _ _ rfl (ko_by rfl).1 (ko_by rfl).2 _ _ hw) mw_X3_fill w_355 w_356 w_354 (rest := []) rfl hl.1 rfl (Nat.le_of_ble_eq_true rfl) ⟨Nat.le_of_ble_eq_true rfl, Nat.le_of_ble_eq_true rfl⟩ dX6_makeable_30 ⟨Nat.zero_le _, Nat.zero_le _⟩) hS (fun _ h => h) (fun r6 T5 H locs hw hP hS => ?_)
    refine lv_if_eq (tgt := 40) hx hb dX6_makeable_33 (by decide) (fun hc7 => ?_) (fun hc7 => ?_)
    · have hw := hw.1 hc7
      refine lv_iconst (v := 0) hx hb dX6_makeable_40 (by decide) ?_
      exact sy_iret C hr hlocks hP hS hw dX6_makeable_41
    · have hw := hw.2 hc7
      refine lv_iconst (v := 1) hx hb dX6_makeable_36 (by decide) ?_
      refine lv_goto (tgt := 41) hx hb dX6_makeable_37 (by decide) ?_
      exact sy_iret C hr hlocks hP hS hw dX6_makeable_41
  · have hw := hw.2 hc3
    refine lv_iconst (v := (-1)) hx hb dX6_makeable_8 (by decide) ?_
    exact sy_iret C hr hlocks hP hS hw dX6_makeable_9
theorem mw_X6_refusalOfRun : MW yX6_refusalOfRun cX6_refusalOfRun 3 (some .int) 2 := ⟨w_417, w_1, by decide +kernel⟩
def wp_X6_refusalOfRun (a1 : Int32) (a2 : Int32) (T : St) (post : Int32 → St → Prop) : Prop :=
  wp_X6_isNoRoutine a1 T (fun r2 T1 => (r2 = 0 → (a2 < 1 → post (-2) T1) ∧ (¬ a2 < 1 → (a2 ≤ 400 → post 0 T1) ∧ (¬ a2 ≤ 400 → post (-2) T1))) ∧ (¬ r2 = 0 → post (-1) T1))
set_option maxHeartbeats 4000000 in
set_option maxRecDepth 100000 in
theorem m_X6_refusalOfRun (l : Launch) (G : Gm) (hi : Inj G) (a1 : Int32) (a2 : Int32)  (T : St) (post : Int32 → St → Prop) (hw : wp_X6_refusalOfRun a1 a2 T post) : Mi l yX6_refusalOfRun cX6_refusalOfRun 3 (some .int) 1 21 G [.ref (G.2.2 0), .int a1, .int a2] T post := by
  refine sy_head hi (by decide) (Nat.le_of_ble_eq_true rfl) (lv := [(0, .ref (G.2.2 0)), (1, .int a1), (2, .int a2)]) rfl ?_
  intro p e s m below meth c C hr hlocks hP hS ls hl
  have C : Cx p s m _ c cX6_refusalOfRun 3 RX6 G := C
  obtain ⟨hx, hb, hml, hown, hg, hK, hN, -⟩ := id C
  unfold wp_X6_refusalOfRun at hw
  refine lv_aload_n hx hb dX6_refusalOfRun_0 rfl (lv_at hl 0 rfl) ?_
  refine lv_iload_n hx hb dX6_refusalOfRun_1 rfl (lv_at hl 1 rfl) ?_
  refine sy_goi (sy_runV C hP rfl rfl (m_X6_isNoRoutine l G hi _ _ _ hw) mw_X6_isNoRoutine w_400 ws_10 w_398 (rest := []) rfl hl.1 rfl (Nat.le_of_ble_eq_true rfl) ⟨Nat.le_of_ble_eq_true rfl, Nat.le_of_ble_eq_true rfl⟩ dX6_refusalOfRun_2 ⟨Nat.zero_le _, Nat.zero_le _⟩) hS (fun _ h => h) (fun r2 T1 H locs hw hP hS => ?_)
  refine lv_if_eq (tgt := 10) hx hb dX6_refusalOfRun_5 (by decide) (fun hc3 => ?_) (fun hc3 => ?_)
  · have hw := hw.1 hc3
    refine lv_iload_n hx hb dX6_refusalOfRun_10 rfl (lv_at hl 2 rfl) ?_
    refine lv_iconst (v := 1) hx hb dX6_refusalOfRun_11 (by decide) ?_
    refine lv_icmp_lt (tgt := 22) hx hb dX6_refusalOfRun_12 (by decide) (fun hc4 => ?_) (fun hc4 => ?_)
    · have hw := hw.1 hc4
      refine lv_bipush (v := (-2)) hx hb dX6_refusalOfRun_22 (by decide) ?_
      refine lv_goto (tgt := 28) hx hb dX6_refusalOfRun_24 (by decide) ?_
      exact sy_iret C hr hlocks hP hS hw dX6_refusalOfRun_28
    · have hw := hw.2 hc4
      refine lv_iload_n hx hb dX6_refusalOfRun_15 rfl (lv_at hl 2 rfl) ?_
      refine lv_sipush (v := 400) hx hb dX6_refusalOfRun_16 (by decide) ?_
      refine lv_icmp_le (tgt := 27) hx hb dX6_refusalOfRun_19 (by decide) (fun hc5 => ?_) (fun hc5 => ?_)
      · have hw := hw.1 hc5
        refine lv_iconst (v := 0) hx hb dX6_refusalOfRun_27 (by decide) ?_
        exact sy_iret C hr hlocks hP hS hw dX6_refusalOfRun_28
      · have hw := hw.2 hc5
        refine lv_bipush (v := (-2)) hx hb dX6_refusalOfRun_22 (by decide) ?_
        refine lv_goto (tgt := 28) hx hb dX6_refusalOfRun_24 (by decide) ?_
        exact sy_iret C hr hlocks hP hS hw dX6_refusalOfRun_28
  · have hw := hw.2 hc3
    refine lv_iconst (v := (-1)) hx hb dX6_refusalOfRun_8 (by decide) ?_
    exact sy_iret C hr hlocks hP hS hw dX6_refusalOfRun_9
theorem mw_X6_run : MW yX6_run cX6_run 6 (some .int) 4 := ⟨w_413, w_1, by decide +kernel⟩
def wp_X6_run (a1 : Int32) (a2 : Int32) (a3 : Int32) (a4 : Int32) (T : St) (post : Int32 → St → Prop) : Prop :=
  wp_X6_refusalOfRun a1 a4 T (fun r2 T1 => (r2 = 0 → wp_X6_beginKeeping T1 (fun T4 => wp_X0_begin 117 a1 a2 a3 T4 (fun T6 => wp_X0_follow 117 a4 (T6.1 0 9) T6 (fun T8 => wp_X6_endKeeping T8 (fun r11 T10 => ∀ T12 : St, T12 = sv (sv T10 0 14 ((T10.1 0 14) + (T10.1 117 11))) 0 15 (((sv T10 0 14 ((T10.1 0 14) + (T10.1 117 11))).1 0 15) + ((sv T10 0 14 ((T10.1 0 14) + (T10.1 117 11))).1 117 12)) → (post (T12.1 117 15) T12)))))) ∧ (¬ r2 = 0 → post r2 T1))
set_option maxHeartbeats 4000000 in
set_option maxRecDepth 100000 in
theorem m_X6_run (l : Launch) (G : Gm) (hi : Inj G) (a1 : Int32) (a2 : Int32) (a3 : Int32) (a4 : Int32)  (T : St) (post : Int32 → St → Prop) (hw : wp_X6_run a1 a2 a3 a4 T post) : Mi l yX6_run cX6_run 6 (some .int) 5 130 G [.ref (G.2.2 0), .int a1, .int a2, .int a3, .int a4] T post := by
  refine sy_head hi (by decide) (Nat.le_of_ble_eq_true rfl) (lv := [(0, .ref (G.2.2 0)), (1, .int a1), (2, .int a2), (3, .int a3), (4, .int a4)]) rfl ?_
  intro p e s m below meth c C hr hlocks hP hS ls hl
  have C : Cx p s m _ c cX6_run 6 RX6 G := C
  obtain ⟨hx, hb, hml, hown, hg, hK, hN, -⟩ := id C
  unfold wp_X6_run at hw
  refine lv_aload_n hx hb dX6_run_0 rfl (lv_at hl 0 rfl) ?_
  refine lv_iload_n hx hb dX6_run_1 rfl (lv_at hl 1 rfl) ?_
  refine lv_iload hx hb dX6_run_2 (lv_at hl 4 rfl) ?_
  refine sy_goi (sy_runV C hP rfl rfl (m_X6_refusalOfRun l G hi _ _ _ _ hw) mw_X6_refusalOfRun w_416 ws_11 w_414 (rest := []) rfl hl.1 rfl (Nat.le_of_ble_eq_true rfl) ⟨Nat.le_of_ble_eq_true rfl, Nat.le_of_ble_eq_true rfl⟩ dX6_run_4 ⟨Nat.zero_le _, Nat.zero_le _⟩) hS (fun _ h => h) (fun r2 T1 H locs hw hP hS => ?_)
  refine lv_istore (lv' := [(5, .int r2), (0, .ref (G.2.2 0)), (1, .int a1), (2, .int a2), (3, .int a3), (4, .int a4)]) hx hb dX6_run_7 hl (by decide) rfl (fun ls hl => ?_)
  refine lv_iload hx hb dX6_run_9 (lv_at hl 0 rfl) ?_
  refine lv_if_eq (tgt := 17) hx hb dX6_run_11 (by decide) (fun hc3 => ?_) (fun hc3 => ?_)
  · have hw := hw.1 hc3
    refine lv_aload_n hx hb dX6_run_17 rfl (lv_at hl 1 rfl) ?_
    refine sy_gov (sy_runV C hP rfl rfl (m_X6_beginKeeping l G hi  _ _ hw) mw_X6_beginKeeping w_279 ws_0 w_277 (rest := []) rfl hl.1 rfl (Nat.le_of_ble_eq_true rfl) ⟨Nat.le_of_ble_eq_true rfl, Nat.le_of_ble_eq_true rfl⟩ dX6_run_18 ⟨Nat.zero_le _, Nat.zero_le _⟩) hS (fun _ h => h) (fun T4 H locs hw hP hS => ?_)
    refine lv_aload_n hx hb dX6_run_21 rfl (lv_at hl 1 rfl) ?_
    refine gf_X6_56 C hP (o := 0) rfl dX6_run_22 ?_
    refine lv_iload_n hx hb dX6_run_25 rfl (lv_at hl 2 rfl) ?_
    refine lv_iload_n hx hb dX6_run_26 rfl (lv_at hl 3 rfl) ?_
    refine lv_iload_n hx hb dX6_run_27 rfl (lv_at hl 4 rfl) ?_
    refine sy_gov (sy_runV C hP rfl rfl (m_X0_begin l G hi _ _ _ _ rfl _ _ hw) mw_X0_begin w_419 w_420 w_418 (rest := []) rfl hl.1 rfl (Nat.le_of_ble_eq_true rfl) ⟨Nat.le_of_ble_eq_true rfl, Nat.le_of_ble_eq_true rfl⟩ dX6_run_28 ⟨Nat.zero_le _, Nat.zero_le _⟩) hS (fun _ h => h) (fun T6 H locs hw hP hS => ?_)
    refine lv_aload_n hx hb dX6_run_31 rfl (lv_at hl 1 rfl) ?_
    refine gf_X6_56 C hP (o := 0) rfl dX6_run_32 ?_
    refine lv_iload hx hb dX6_run_35 (lv_at hl 5 rfl) ?_
    refine lv_aload_n hx hb dX6_run_37 rfl (lv_at hl 1 rfl) ?_
    refine gf_X6_92 C hP (o := 0) rfl dX6_run_38 ?_
    refine sy_gov (sy_runV C hP rfl rfl (m_X0_follow l G hi _ _ _ rfl _ _ hw) mw_X0_follow w_434 w_435 w_433 (rest := []) rfl hl.1 rfl (Nat.le_of_ble_eq_true rfl) ⟨Nat.le_of_ble_eq_true rfl, Nat.le_of_ble_eq_true rfl⟩ dX6_run_41 ⟨Nat.zero_le _, Nat.zero_le _⟩) hS (fun _ h => h) (fun T8 H locs hw hP hS => ?_)
    refine lv_aload_n hx hb dX6_run_44 rfl (lv_at hl 1 rfl) ?_
    refine sy_goi (sy_runV C hP rfl rfl (m_X6_endKeeping l G hi  _ _ hw) mw_X6_endKeeping w_298 ws_1 w_296 (rest := []) rfl hl.1 rfl (Nat.le_of_ble_eq_true rfl) ⟨Nat.le_of_ble_eq_true rfl, Nat.le_of_ble_eq_true rfl⟩ dX6_run_45 ⟨Nat.zero_le _, Nat.zero_le _⟩) hS (fun _ h => h) (fun r11 T10 H locs hw hP hS => ?_)
    refine lv_pop hx hb dX6_run_48 rfl ?_
    refine lv_aload_n hx hb dX6_run_49 rfl (lv_at hl 1 rfl) ?_
    refine lv_dup hx hb dX6_run_50 rfl ?_
    refine gf_X6_159 C hP (o := 0) rfl dX6_run_51 ?_
    refine lv_aload_n hx hb dX6_run_54 rfl (lv_at hl 1 rfl) ?_
    refine gf_X6_56 C hP (o := 0) rfl dX6_run_55 ?_
    refine gf_X6_162 C hP (o := 117) rfl dX6_run_58 ?_
    refine lv_iadd hx hb dX6_run_61 ?_
    refine pf_X6_159 C hP hS (fun _ h => h) (o := 0) rfl dX6_run_62 (fun H locs hP hS => ?_)
    refine lv_aload_n hx hb dX6_run_65 rfl (lv_at hl 1 rfl) ?_
    refine lv_dup hx hb dX6_run_66 rfl ?_
    refine gf_X6_165 C hP (o := 0) rfl dX6_run_67 ?_
    refine lv_aload_n hx hb dX6_run_70 rfl (lv_at hl 1 rfl) ?_
    refine gf_X6_56 C hP (o := 0) rfl dX6_run_71 ?_
    refine gf_X6_168 C hP (o := 117) rfl dX6_run_74 ?_
    refine lv_iadd hx hb dX6_run_77 ?_
    refine pf_X6_165 C hP hS (fun _ h => h) (o := 0) rfl dX6_run_78 (fun H locs hP hS => ?_)
    obtain ⟨T12, eT12, hP⟩ := nameT (P := fun T => va_P G.1 sc_cl (wd G T) H) hP
    have hw := hw T12 eT12
    refine lv_aload_n hx hb dX6_run_81 rfl (lv_at hl 1 rfl) ?_
    refine gf_X6_56 C hP (o := 0) rfl dX6_run_82 ?_
    refine gf_X6_171 C hP (o := 117) rfl dX6_run_85 ?_
    exact sy_iret C hr hlocks hP hS hw dX6_run_88
  · have hw := hw.2 hc3
    refine lv_iload hx hb dX6_run_14 (lv_at hl 0 rfl) ?_
    exact sy_iret C hr hlocks hP hS hw dX6_run_16
theorem mw_X6_ran : MW yX6_ran cX6_ran 2 (some .int) 1 := ⟨w_480, w_1, by decide +kernel⟩
def wp_X6_ran (a1 : Int32) (T : St) (post : Int32 → St → Prop) : Prop :=
  (a1 = 0 → post (T.1 117 6) T) ∧ (¬ a1 = 0 → (a1 = 1 → post (T.1 117 7) T) ∧ (¬ a1 = 1 → (a1 = 2 → wp_X0_steps 117 T (fun r5 T4 => post r5 T4)) ∧ (¬ a1 = 2 → (a1 = 3 → post (T.1 117 11) T) ∧ (¬ a1 = 3 → (a1 = 4 → post (T.1 117 12) T) ∧ (¬ a1 = 4 → (a1 = 5 → post (T.1 117 13) T) ∧ (¬ a1 = 5 → (a1 = 6 → post (T.1 117 8) T) ∧ (¬ a1 = 6 → (a1 = 7 → post (T.1 117 5) T) ∧ (¬ a1 = 7 → (a1 = 8 → post (T.1 117 14) T) ∧ (¬ a1 = 8 → post (-2000000002) T)))))))))
set_option maxHeartbeats 4000000 in
set_option maxRecDepth 100000 in
theorem m_X6_ran (l : Launch) (G : Gm) (hi : Inj G) (a1 : Int32)  (T : St) (post : Int32 → St → Prop) (hw : wp_X6_ran a1 T post) : Mi l yX6_ran cX6_ran 2 (some .int) 1 20 G [.ref (G.2.2 0), .int a1] T post := by
  refine sy_head hi (by decide) (Nat.le_of_ble_eq_true rfl) (lv := [(0, .ref (G.2.2 0)), (1, .int a1)]) rfl ?_
  intro p e s m below meth c C hr hlocks hP hS ls hl
  have C : Cx p s m _ c cX6_ran 2 RX6 G := C
  obtain ⟨hx, hb, hml, hown, hg, hK, hN, -⟩ := id C
  unfold wp_X6_ran at hw
  refine lv_iload_n hx hb dX6_ran_0 rfl (lv_at hl 1 rfl) ?_
  by_cases hs1 : a1 = 0
  · have hw := hw.1 hs1
    refine lv_tableIn (off := 51) (tgt := 52) hx hb dX6_ran_1 (by rw [hs1]; decide) (by rw [hs1]; decide) (by rw [hs1]; rfl) (by decide) ?_
    refine lv_aload_n hx hb dX6_ran_52 rfl (lv_at hl 0 rfl) ?_
    refine gf_X6_56 C hP (o := 0) rfl dX6_ran_53 ?_
    refine gf_X6_174 C hP (o := 117) rfl dX6_ran_56 ?_
    exact sy_iret C hr hlocks hP hS hw dX6_ran_59
  · have hw := hw.2 hs1
    by_cases hs2 : a1 = 1
    · have hw := hw.1 hs2
      refine lv_tableIn (off := 59) (tgt := 60) hx hb dX6_ran_1 (by rw [hs2]; decide) (by rw [hs2]; decide) (by rw [hs2]; rfl) (by decide) ?_
      refine lv_aload_n hx hb dX6_ran_60 rfl (lv_at hl 0 rfl) ?_
      refine gf_X6_56 C hP (o := 0) rfl dX6_ran_61 ?_
      refine gf_X6_177 C hP (o := 117) rfl dX6_ran_64 ?_
      exact sy_iret C hr hlocks hP hS hw dX6_ran_67
    · have hw := hw.2 hs2
      by_cases hs3 : a1 = 2
      · have hw := hw.1 hs3
        refine lv_tableIn (off := 67) (tgt := 68) hx hb dX6_ran_1 (by rw [hs3]; decide) (by rw [hs3]; decide) (by rw [hs3]; rfl) (by decide) ?_
        refine lv_aload_n hx hb dX6_ran_68 rfl (lv_at hl 0 rfl) ?_
        refine gf_X6_56 C hP (o := 0) rfl dX6_ran_69 ?_
        refine sy_goi (sy_runV C hP rfl rfl (m_X0_steps l G hi _ rfl _ _ hw) mw_X0_steps w_482 w_483 w_481 (rest := []) rfl hl.1 rfl (Nat.le_of_ble_eq_true rfl) ⟨Nat.le_of_ble_eq_true rfl, Nat.le_of_ble_eq_true rfl⟩ dX6_ran_72 ⟨Nat.zero_le _, Nat.zero_le _⟩) hS (fun _ h => h) (fun r5 T4 H locs hw hP hS => ?_)
        exact sy_iret C hr hlocks hP hS hw dX6_ran_75
      · have hw := hw.2 hs3
        by_cases hs6 : a1 = 3
        · have hw := hw.1 hs6
          refine lv_tableIn (off := 75) (tgt := 76) hx hb dX6_ran_1 (by rw [hs6]; decide) (by rw [hs6]; decide) (by rw [hs6]; rfl) (by decide) ?_
          refine lv_aload_n hx hb dX6_ran_76 rfl (lv_at hl 0 rfl) ?_
          refine gf_X6_56 C hP (o := 0) rfl dX6_ran_77 ?_
          refine gf_X6_162 C hP (o := 117) rfl dX6_ran_80 ?_
          exact sy_iret C hr hlocks hP hS hw dX6_ran_83
        · have hw := hw.2 hs6
          by_cases hs7 : a1 = 4
          · have hw := hw.1 hs7
            refine lv_tableIn (off := 83) (tgt := 84) hx hb dX6_ran_1 (by rw [hs7]; decide) (by rw [hs7]; decide) (by rw [hs7]; rfl) (by decide) ?_
            refine lv_aload_n hx hb dX6_ran_84 rfl (lv_at hl 0 rfl) ?_
            refine gf_X6_56 C hP (o := 0) rfl dX6_ran_85 ?_
            refine gf_X6_168 C hP (o := 117) rfl dX6_ran_88 ?_
            exact sy_iret C hr hlocks hP hS hw dX6_ran_91
          · have hw := hw.2 hs7
            by_cases hs8 : a1 = 5
            · have hw := hw.1 hs8
              refine lv_tableIn (off := 91) (tgt := 92) hx hb dX6_ran_1 (by rw [hs8]; decide) (by rw [hs8]; decide) (by rw [hs8]; rfl) (by decide) ?_
              refine lv_aload_n hx hb dX6_ran_92 rfl (lv_at hl 0 rfl) ?_
              refine gf_X6_56 C hP (o := 0) rfl dX6_ran_93 ?_
              refine gf_X6_183 C hP (o := 117) rfl dX6_ran_96 ?_
              exact sy_iret C hr hlocks hP hS hw dX6_ran_99
            · have hw := hw.2 hs8
              by_cases hs9 : a1 = 6
              · have hw := hw.1 hs9
                refine lv_tableIn (off := 99) (tgt := 100) hx hb dX6_ran_1 (by rw [hs9]; decide) (by rw [hs9]; decide) (by rw [hs9]; rfl) (by decide) ?_
                refine lv_aload_n hx hb dX6_ran_100 rfl (lv_at hl 0 rfl) ?_
                refine gf_X6_56 C hP (o := 0) rfl dX6_ran_101 ?_
                refine gf_X6_186 C hP (o := 117) rfl dX6_ran_104 ?_
                exact sy_iret C hr hlocks hP hS hw dX6_ran_107
              · have hw := hw.2 hs9
                by_cases hs10 : a1 = 7
                · have hw := hw.1 hs10
                  refine lv_tableIn (off := 107) (tgt := 108) hx hb dX6_ran_1 (by rw [hs10]; decide) (by rw [hs10]; decide) (by rw [hs10]; rfl) (by decide) ?_
                  refine lv_aload_n hx hb dX6_ran_108 rfl (lv_at hl 0 rfl) ?_
                  refine gf_X6_56 C hP (o := 0) rfl dX6_ran_109 ?_
                  refine gf_X6_187 C hP (o := 117) rfl dX6_ran_112 ?_
                  exact sy_iret C hr hlocks hP hS hw dX6_ran_115
                · have hw := hw.2 hs10
                  by_cases hs11 : a1 = 8
                  · have hw := hw.1 hs11
                    refine lv_tableIn (off := 115) (tgt := 116) hx hb dX6_ran_1 (by rw [hs11]; decide) (by rw [hs11]; decide) (by rw [hs11]; rfl) (by decide) ?_
                    refine lv_aload_n hx hb dX6_ran_116 rfl (lv_at hl 0 rfl) ?_
                    refine gf_X6_56 C hP (o := 0) rfl dX6_ran_117 ?_
                    refine gf_X6_190 C hP (o := 117) rfl dX6_ran_120 ?_
                    exact sy_iret C hr hlocks hP hS hw dX6_ran_123
                  · have hw := hw.2 hs11
                    have ahs1 : (a1).toInt ≠ 0 := ne_toI hs1
                    have ahs2 : (a1).toInt ≠ 1 := ne_toI hs2
                    have ahs3 : (a1).toInt ≠ 2 := ne_toI hs3
                    have ahs6 : (a1).toInt ≠ 3 := ne_toI hs6
                    have ahs7 : (a1).toInt ≠ 4 := ne_toI hs7
                    have ahs8 : (a1).toInt ≠ 5 := ne_toI hs8
                    have ahs9 : (a1).toInt ≠ 6 := ne_toI hs9
                    have ahs10 : (a1).toInt ≠ 7 := ne_toI hs10
                    have ahs11 : (a1).toInt ≠ 8 := ne_toI hs11
                    refine lv_tableOut (tgt := 124) hx hb dX6_ran_1 (by omega) (by decide) ?_
                    refine lv_ldc (v := (-2000000002)) hx hb hown (hg _ w_485) dX6_ran_124 ?_
                    exact sy_iret C hr hlocks hP hS hw dX6_ran_126
theorem mw_X6_alike : MW yX6_alike cX6_alike 6 (some .int) 4 := ⟨w_489, w_1, by decide +kernel⟩
def wp_X6_alike (a1 : Int32) (a2 : Int32) (a3 : Int32) (a4 : Int32) (T : St) (post : Int32 → St → Prop) : Prop :=
  wp_X6_refusalOfRun a1 a4 T (fun r2 T1 => (r2 = 0 → wp_X4_copyFrom (mo 120) 4 (T1.1 4 2) T1 (fun T4 => wp_X0_begin 120 a1 a2 a3 T4 (fun T6 => wp_X0_follow 120 a4 (T6.1 0 9) T6 (fun T8 => wp_X4_copyFrom (mo 125) 4 0 T8 (fun T10 => wp_X0_begin 125 a1 a2 a3 T10 (fun T12 => wp_X0_follow 125 a4 (T12.1 0 9) T12 (fun T14 => wp_X0_cameToTheSameAs 120 125 T14 (fun r17 T16 => (r17 = 0 → post 0 T16) ∧ (¬ r17 = 0 → post 1 T16))))))))) ∧ (¬ r2 = 0 → post r2 T1))
set_option maxHeartbeats 4000000 in
set_option maxRecDepth 100000 in
theorem m_X6_alike (l : Launch) (G : Gm) (hi : Inj G) (a1 : Int32) (a2 : Int32) (a3 : Int32) (a4 : Int32)  (T : St) (post : Int32 → St → Prop) (hw : wp_X6_alike a1 a2 a3 a4 T post) : Mi l yX6_alike cX6_alike 6 (some .int) 5 130 G [.ref (G.2.2 0), .int a1, .int a2, .int a3, .int a4] T post := by
  refine sy_head hi (by decide) (Nat.le_of_ble_eq_true rfl) (lv := [(0, .ref (G.2.2 0)), (1, .int a1), (2, .int a2), (3, .int a3), (4, .int a4)]) rfl ?_
  intro p e s m below meth c C hr hlocks hP hS ls hl
  have C : Cx p s m _ c cX6_alike 6 RX6 G := C
  obtain ⟨hx, hb, hml, hown, hg, hK, hN, -⟩ := id C
  unfold wp_X6_alike at hw
  refine lv_aload_n hx hb dX6_alike_0 rfl (lv_at hl 0 rfl) ?_
  refine lv_iload_n hx hb dX6_alike_1 rfl (lv_at hl 1 rfl) ?_
  refine lv_iload hx hb dX6_alike_2 (lv_at hl 4 rfl) ?_
  refine sy_goi (sy_runV C hP rfl rfl (m_X6_refusalOfRun l G hi _ _ _ _ hw) mw_X6_refusalOfRun w_416 ws_11 w_414 (rest := []) rfl hl.1 rfl (Nat.le_of_ble_eq_true rfl) ⟨Nat.le_of_ble_eq_true rfl, Nat.le_of_ble_eq_true rfl⟩ dX6_alike_4 ⟨Nat.zero_le _, Nat.zero_le _⟩) hS (fun _ h => h) (fun r2 T1 H locs hw hP hS => ?_)
  refine lv_istore (lv' := [(5, .int r2), (0, .ref (G.2.2 0)), (1, .int a1), (2, .int a2), (3, .int a3), (4, .int a4)]) hx hb dX6_alike_7 hl (by decide) rfl (fun ls hl => ?_)
  refine lv_iload hx hb dX6_alike_9 (lv_at hl 0 rfl) ?_
  refine lv_if_eq (tgt := 17) hx hb dX6_alike_11 (by decide) (fun hc3 => ?_) (fun hc3 => ?_)
  · have hw := hw.1 hc3
    refine lv_aload_n hx hb dX6_alike_17 rfl (lv_at hl 1 rfl) ?_
    refine gf_X6_60 C hP (o := 0) rfl dX6_alike_18 ?_
    refine gf_X6_194 C hP (o := 120) rfl dX6_alike_21 ?_
    refine lv_aload_n hx hb dX6_alike_24 rfl (lv_at hl 1 rfl) ?_
    refine gf_X6_21 C hP (o := 0) rfl dX6_alike_25 ?_
    refine lv_aload_n hx hb dX6_alike_28 rfl (lv_at hl 1 rfl) ?_
    refine gf_X6_21 C hP (o := 0) rfl dX6_alike_29 ?_
    refine gf_X6_195 C hP (o := 4) rfl dX6_alike_32 ?_
    refine sy_gov (sy_runV C hP (ko_co rfl).1 rfl (m_X4_copyFrom l G hi _ _ _ (ko_co rfl).1 rfl _ _ hw) mw_X4_copyFrom w_491 w_492 w_490 (rest := []) rfl hl.1 rfl (Nat.le_of_ble_eq_true rfl) ⟨Nat.le_of_ble_eq_true rfl, Nat.le_of_ble_eq_true rfl⟩ dX6_alike_35 ⟨Nat.zero_le _, Nat.zero_le _⟩) hS (fun _ h => h) (fun T4 H locs hw hP hS => ?_)
    refine lv_aload_n hx hb dX6_alike_38 rfl (lv_at hl 1 rfl) ?_
    refine gf_X6_60 C hP (o := 0) rfl dX6_alike_39 ?_
    refine lv_iload_n hx hb dX6_alike_42 rfl (lv_at hl 2 rfl) ?_
    refine lv_iload_n hx hb dX6_alike_43 rfl (lv_at hl 3 rfl) ?_
    refine lv_iload_n hx hb dX6_alike_44 rfl (lv_at hl 4 rfl) ?_
    refine sy_gov (sy_runV C hP rfl rfl (m_X0_begin l G hi _ _ _ _ rfl _ _ hw) mw_X0_begin w_419 w_420 w_418 (rest := []) rfl hl.1 rfl (Nat.le_of_ble_eq_true rfl) ⟨Nat.le_of_ble_eq_true rfl, Nat.le_of_ble_eq_true rfl⟩ dX6_alike_45 ⟨Nat.zero_le _, Nat.zero_le _⟩) hS (fun _ h => h) (fun T6 H locs hw hP hS => ?_)
    refine lv_aload_n hx hb dX6_alike_48 rfl (lv_at hl 1 rfl) ?_
    refine gf_X6_60 C hP (o := 0) rfl dX6_alike_49 ?_
    refine lv_iload hx hb dX6_alike_52 (lv_at hl 5 rfl) ?_
    refine lv_aload_n hx hb dX6_alike_54 rfl (lv_at hl 1 rfl) ?_
    refine gf_X6_92 C hP (o := 0) rfl dX6_alike_55 ?_
    refine sy_gov (sy_runV C hP rfl rfl (m_X0_follow l G hi _ _ _ rfl _ _ hw) mw_X0_follow w_434 w_435 w_433 (rest := []) rfl hl.1 rfl (Nat.le_of_ble_eq_true rfl) ⟨Nat.le_of_ble_eq_true rfl, Nat.le_of_ble_eq_true rfl⟩ dX6_alike_58 ⟨Nat.zero_le _, Nat.zero_le _⟩) hS (fun _ h => h) (fun T8 H locs hw hP hS => ?_)
    refine lv_aload_n hx hb dX6_alike_61 rfl (lv_at hl 1 rfl) ?_
    refine gf_X6_63 C hP (o := 0) rfl dX6_alike_62 ?_
    refine gf_X6_194 C hP (o := 125) rfl dX6_alike_65 ?_
    refine lv_aload_n hx hb dX6_alike_68 rfl (lv_at hl 1 rfl) ?_
    refine gf_X6_21 C hP (o := 0) rfl dX6_alike_69 ?_
    refine lv_iconst (v := 0) hx hb dX6_alike_72 (by decide) ?_
    refine sy_gov (sy_runV C hP (ko_co rfl).1 rfl (m_X4_copyFrom l G hi _ _ _ (ko_co rfl).1 rfl _ _ hw) mw_X4_copyFrom w_491 w_492 w_490 (rest := []) rfl hl.1 rfl (Nat.le_of_ble_eq_true rfl) ⟨Nat.le_of_ble_eq_true rfl, Nat.le_of_ble_eq_true rfl⟩ dX6_alike_73 ⟨Nat.zero_le _, Nat.zero_le _⟩) hS (fun _ h => h) (fun T10 H locs hw hP hS => ?_)
    refine lv_aload_n hx hb dX6_alike_76 rfl (lv_at hl 1 rfl) ?_
    refine gf_X6_63 C hP (o := 0) rfl dX6_alike_77 ?_
    refine lv_iload_n hx hb dX6_alike_80 rfl (lv_at hl 2 rfl) ?_
    refine lv_iload_n hx hb dX6_alike_81 rfl (lv_at hl 3 rfl) ?_
    refine lv_iload_n hx hb dX6_alike_82 rfl (lv_at hl 4 rfl) ?_
    refine sy_gov (sy_runV C hP rfl rfl (m_X0_begin l G hi _ _ _ _ rfl _ _ hw) mw_X0_begin w_419 w_420 w_418 (rest := []) rfl hl.1 rfl (Nat.le_of_ble_eq_true rfl) ⟨Nat.le_of_ble_eq_true rfl, Nat.le_of_ble_eq_true rfl⟩ dX6_alike_83 ⟨Nat.zero_le _, Nat.zero_le _⟩) hS (fun _ h => h) (fun T12 H locs hw hP hS => ?_)
    refine lv_aload_n hx hb dX6_alike_86 rfl (lv_at hl 1 rfl) ?_
    refine gf_X6_63 C hP (o := 0) rfl dX6_alike_87 ?_
    refine lv_iload hx hb dX6_alike_90 (lv_at hl 5 rfl) ?_
    refine lv_aload_n hx hb dX6_alike_92 rfl (lv_at hl 1 rfl) ?_
    refine gf_X6_92 C hP (o := 0) rfl dX6_alike_93 ?_
    refine sy_gov (sy_runV C hP rfl rfl (m_X0_follow l G hi _ _ _ rfl _ _ hw) mw_X0_follow w_434 w_435 w_433 (rest := []) rfl hl.1 rfl (Nat.le_of_ble_eq_true rfl) ⟨Nat.le_of_ble_eq_true rfl, Nat.le_of_ble_eq_true rfl⟩ dX6_alike_96 ⟨Nat.zero_le _, Nat.zero_le _⟩) hS (fun _ h => h) (fun T14 H locs hw hP hS => ?_)
    refine lv_aload_n hx hb dX6_alike_99 rfl (lv_at hl 1 rfl) ?_
    refine gf_X6_60 C hP (o := 0) rfl dX6_alike_100 ?_
    refine lv_aload_n hx hb dX6_alike_103 rfl (lv_at hl 1 rfl) ?_
    refine gf_X6_63 C hP (o := 0) rfl dX6_alike_104 ?_
    refine sy_goi (sy_runV C hP rfl rfl (m_X0_cameToTheSameAs l G hi _ _ rfl rfl _ _ hw) mw_X0_cameToTheSameAs w_497 w_498 w_496 (rest := []) rfl hl.1 rfl (Nat.le_of_ble_eq_true rfl) ⟨Nat.le_of_ble_eq_true rfl, Nat.le_of_ble_eq_true rfl⟩ dX6_alike_107 ⟨Nat.zero_le _, Nat.zero_le _⟩) hS (fun _ h => h) (fun r17 T16 H locs hw hP hS => ?_)
    refine lv_if_eq (tgt := 117) hx hb dX6_alike_110 (by decide) (fun hc18 => ?_) (fun hc18 => ?_)
    · have hw := hw.1 hc18
      refine lv_iconst (v := 0) hx hb dX6_alike_117 (by decide) ?_
      exact sy_iret C hr hlocks hP hS hw dX6_alike_118
    · have hw := hw.2 hc18
      refine lv_iconst (v := 1) hx hb dX6_alike_113 (by decide) ?_
      refine lv_goto (tgt := 118) hx hb dX6_alike_114 (by decide) ?_
      exact sy_iret C hr hlocks hP hS hw dX6_alike_118
  · have hw := hw.2 hc3
    refine lv_iload hx hb dX6_alike_14 (lv_at hl 0 rfl) ?_
    exact sy_iret C hr hlocks hP hS hw dX6_alike_16
theorem mw_X6_page : MW yX6_page cX6_page 2 (some .int) 1 := ⟨w_508, w_1, by decide +kernel⟩
def wp_X6_page (a1 : Int32) (T : St) (post : Int32 → St → Prop) : Prop :=
  (a1 < 0 → post (-2) T) ∧ (¬ a1 < 0 → (a1 < 16 → vp_in a1 16 ∧ (wp_J6_bitCount_0f7a4 (T.1 3 a1.toNatClampNeg) T (fun r5 T4 => post r5 T4))) ∧ (¬ a1 < 16 → post (-2) T))
set_option maxHeartbeats 4000000 in
set_option maxRecDepth 100000 in
theorem m_X6_page (l : Launch) (G : Gm) (hi : Inj G) (a1 : Int32)  (T : St) (post : Int32 → St → Prop) (hw : wp_X6_page a1 T post) : Mi l yX6_page cX6_page 2 (some .int) 1 20 G [.ref (G.2.2 0), .int a1] T post := by
  refine sy_head hi (by decide) (Nat.le_of_ble_eq_true rfl) (lv := [(0, .ref (G.2.2 0)), (1, .int a1)]) rfl ?_
  intro p e s m below meth c C hr hlocks hP hS ls hl
  have C : Cx p s m _ c cX6_page 2 RX6 G := C
  obtain ⟨hx, hb, hml, hown, hg, hK, hN, -⟩ := id C
  unfold wp_X6_page at hw
  refine lv_iload_n hx hb dX6_page_0 rfl (lv_at hl 1 rfl) ?_
  refine lv_if_lt (tgt := 10) hx hb dX6_page_1 (by decide) (fun hc1 => ?_) (fun hc1 => ?_)
  · have hw := hw.1 hc1
    refine lv_bipush (v := (-2)) hx hb dX6_page_10 (by decide) ?_
    exact sy_iret C hr hlocks hP hS hw dX6_page_12
  · have hw := hw.2 hc1
    refine lv_iload_n hx hb dX6_page_4 rfl (lv_at hl 1 rfl) ?_
    refine lv_bipush (v := 16) hx hb dX6_page_5 (by decide) ?_
    refine lv_icmp_lt (tgt := 13) hx hb dX6_page_7 (by decide) (fun hc2 => ?_) (fun hc2 => ?_)
    · have hw := hw.1 hc2
      refine lv_aload_n hx hb dX6_page_13 rfl (lv_at hl 0 rfl) ?_
      refine gf_X6_10 C hP (o := 0) rfl dX6_page_14 ?_
      refine gf_X6_206 C hP (o := 1) rfl dX6_page_17 ?_
      refine lv_iload_n hx hb dX6_page_20 rfl (lv_at hl 1 rfl) ?_
      obtain ⟨hn3, hw⟩ := hw
      refine sy_iald C hP (o := 3) rfl rfl hn3 dX6_page_21 ?_
      refine sy_goi (sy_runS C hP (m_J6_bitCount_0f7a4 l G hi _ _ _ hw) mw_J6_bitCount_0f7a4 w_472 w_509 (rest := []) rfl hl.1 rfl (Nat.le_of_ble_eq_true rfl) ⟨Nat.le_of_ble_eq_true rfl, Nat.le_of_ble_eq_true rfl⟩ dX6_page_22 ⟨Nat.zero_le _, Nat.zero_le _⟩) hS (fun _ h => h) (fun r5 T4 H locs hw hP hS => ?_)
      exact sy_iret C hr hlocks hP hS hw dX6_page_25
    · have hw := hw.2 hc2
      refine lv_bipush (v := (-2)) hx hb dX6_page_10 (by decide) ?_
      exact sy_iret C hr hlocks hP hS hw dX6_page_12
theorem mw_X6_snapshot : MW yX6_snapshot cX6_snapshot 1 (some .int) 0 := ⟨w_513, w_1, by decide +kernel⟩
def wp_X6_snapshot (T : St) (post : Int32 → St → Prop) : Prop :=
  (T.1 0 10 < 4 → vp_in (T.1 0 10) 4 ∧ (∀ T3 : St, T3 = sa T (18 + 1 + (T.1 0 10).toNatClampNeg) (va_cpy (T.1 (4 + 1)) (T.1 (18 + 1 + (T.1 0 10).toNatClampNeg)) 0 0 256) → (post (((sv T3 0 10 ((T3.1 0 10) + 1)).1 0 10) - 1) (sv T3 0 10 ((T3.1 0 10) + 1))))) ∧ (¬ T.1 0 10 < 4 → post (-4) T)
set_option maxHeartbeats 4000000 in
set_option maxRecDepth 100000 in
theorem m_X6_snapshot (l : Launch) (G : Gm) (hi : Inj G)   (T : St) (post : Int32 → St → Prop) (hw : wp_X6_snapshot T post) : Mi l yX6_snapshot cX6_snapshot 1 (some .int) 1 80 G [.ref (G.2.2 0)] T post := by
  refine sy_head hi (by decide) (Nat.le_of_ble_eq_true rfl) (lv := [(0, .ref (G.2.2 0))]) rfl ?_
  intro p e s m below meth c C hr hlocks hP hS ls hl
  have C : Cx p s m _ c cX6_snapshot 1 RX6 G := C
  obtain ⟨hx, hb, hml, hown, hg, hK, hN, -⟩ := id C
  unfold wp_X6_snapshot at hw
  refine lv_aload_n hx hb dX6_snapshot_0 rfl (lv_at hl 0 rfl) ?_
  refine gf_X6_215 C hP (o := 0) rfl dX6_snapshot_1 ?_
  refine lv_iconst (v := 4) hx hb dX6_snapshot_4 (by decide) ?_
  refine lv_icmp_lt (tgt := 11) hx hb dX6_snapshot_5 (by decide) (fun hc1 => ?_) (fun hc1 => ?_)
  · have hw := hw.1 hc1
    refine lv_aload_n hx hb dX6_snapshot_11 rfl (lv_at hl 0 rfl) ?_
    refine gf_X6_21 C hP (o := 0) rfl dX6_snapshot_12 ?_
    refine gf_X6_88 C hP (o := 4) rfl dX6_snapshot_15 ?_
    refine lv_iconst (v := 0) hx hb dX6_snapshot_18 (by decide) ?_
    refine lv_aload_n hx hb dX6_snapshot_19 rfl (lv_at hl 0 rfl) ?_
    refine gf_X6_40 C hP (o := 0) rfl dX6_snapshot_20 ?_
    refine lv_aload_n hx hb dX6_snapshot_23 rfl (lv_at hl 0 rfl) ?_
    refine gf_X6_215 C hP (o := 0) rfl dX6_snapshot_24 ?_
    obtain ⟨hn2, hw⟩ := hw
    refine sy_aldG C hP (o := 18) rfl rfl hn2 dX6_snapshot_27 ?_
    refine lv_iconst (v := 0) hx hb dX6_snapshot_28 (by decide) ?_
    refine lv_sipush (v := 256) hx hb dX6_snapshot_29 (by decide) ?_
    refine sy_copy C hP hS (fun _ h => h) hl.1 (o1 := (4 + 1)) (o2 := (18 + 1 + (T.1 0 10).toNatClampNeg)) (ko_by rfl).1 (ko_row (Or.inr ⟨rfl, rfl⟩) hn2).1 (ko_by rfl).2 (ko_row (Or.inr ⟨rfl, rfl⟩) hn2).2 w_514 w_287 w_286 w_9 (Nat.le_of_ble_eq_true rfl) (Nat.le_of_ble_eq_true rfl) dX6_snapshot_32 (fun H locs hP hS => ?_)
    obtain ⟨T3, eT3, hP⟩ := nameT (P := fun T => va_P G.1 sc_cl (wd G T) H) hP
    have hw := hw T3 eT3
    refine lv_aload_n hx hb dX6_snapshot_35 rfl (lv_at hl 0 rfl) ?_
    refine lv_dup hx hb dX6_snapshot_36 rfl ?_
    refine gf_X6_215 C hP (o := 0) rfl dX6_snapshot_37 ?_
    refine lv_iconst (v := 1) hx hb dX6_snapshot_40 (by decide) ?_
    refine lv_iadd hx hb dX6_snapshot_41 ?_
    refine pf_X6_215 C hP hS (fun _ h => h) (o := 0) rfl dX6_snapshot_42 (fun H locs hP hS => ?_)
    refine lv_aload_n hx hb dX6_snapshot_45 rfl (lv_at hl 0 rfl) ?_
    refine gf_X6_215 C hP (o := 0) rfl dX6_snapshot_46 ?_
    refine lv_iconst (v := 1) hx hb dX6_snapshot_49 (by decide) ?_
    refine lv_isub hx hb dX6_snapshot_50 ?_
    exact sy_iret C hr hlocks hP hS hw dX6_snapshot_51
  · have hw := hw.2 hc1
    refine lv_bipush (v := (-4)) hx hb dX6_snapshot_8 (by decide) ?_
    exact sy_iret C hr hlocks hP hS hw dX6_snapshot_10
theorem mw_X6_bringBack : MW yX6_bringBack cX6_bringBack 3 (some .int) 0 := ⟨w_526, w_1, by decide +kernel⟩
def wb_X6_bringBack_4  (k4 : (Int32 × Int32) → St → Prop) (v1_1 : Int32) (v2_2 : Int32) (T3 : St) (post : Int32 → St → Prop) : Prop :=
 (T3.1 0 9 ≤ v2_2 → post v1_1 (sv T3 0 13 ((T3.1 0 13) + v1_1))) ∧ (¬ T3.1 0 9 ≤ v2_2 → wp_X4_hasLive 4 v2_2 T3 (fun r13 T12 => (¬ r13 = 0 → k4 (v1_1, v2_2 + 1) T12) ∧ (r13 = 0 → vp_in v2_2 10 ∧ (wp_X5_canComeBack (27 + 9 * v2_2.toNatClampNeg) (4 + 1) T12 (fun r17 T16 => (r17 = 0 → k4 (v1_1, v2_2 + 1) T16) ∧ (¬ r17 = 0 → vp_in v2_2 10 ∧ (wp_X5_takeBack (27 + 9 * v2_2.toNatClampNeg) T16 (fun T20 => wp_X6_giveMember v2_2 T20 (fun T22 => k4 (v1_1 + 1, v2_2 + 1) T22)))))))))
def wp_X6_bringBack (T : St) (post : Int32 → St → Prop) : Prop :=
  LW (fun kl (vl : Int32 × Int32) Tl => wb_X6_bringBack_4 kl vl.1 vl.2 Tl post) (0, 0) T
set_option maxHeartbeats 4000000 in
set_option maxRecDepth 100000 in
theorem m_X6_bringBack (l : Launch) (G : Gm) (hi : Inj G)   (T : St) (post : Int32 → St → Prop) (hw : wp_X6_bringBack T post) : Mi l yX6_bringBack cX6_bringBack 3 (some .int) 4 90 G [.ref (G.2.2 0)] T post := by
  refine sy_head hi (by decide) (Nat.le_of_ble_eq_true rfl) (lv := [(0, .ref (G.2.2 0))]) rfl ?_
  intro p e s m below meth c C hr hlocks hP hS ls hl
  have C : Cx p s m _ c cX6_bringBack 3 RX6 G := C
  obtain ⟨hx, hb, hml, hown, hg, hK, hN, -⟩ := id C
  unfold wp_X6_bringBack at hw
  refine lv_iconst (v := 0) hx hb dX6_bringBack_0 (by decide) ?_
  refine lv_istore_n (lv' := [(1, .int 0), (0, .ref (G.2.2 0))]) hx hb dX6_bringBack_1 rfl hl (by decide) rfl (fun ls hl => ?_)
  refine lv_iconst (v := 0) hx hb dX6_bringBack_2 (by decide) ?_
  refine lv_istore_n (lv' := [(2, .int 0), (1, .int 0), (0, .ref (G.2.2 0))]) hx hb dX6_bringBack_3 rfl hl (by decide) rfl (fun ls hl => ?_)
  obtain ⟨I5, u6, hI, hst7⟩ := hw
  have L10 : ∀ (n : Nat) (v1_1 : Int32) (v2_2 : Int32) (T3 : St), I5 (v1_1, v2_2) T3 → u6 (v1_1, v2_2) T3 < n → ∀ (H : Heap) (locs : List Loc), va_P G.1 sc_cl (wd G T3) H → va_S (SA G) s.heap H locs → ∀ ls : Array Slot, lv_has ls 3 [(2, .int v2_2), (1, .int v1_1), (0, .ref (G.2.2 0))] → W p l e { frames := 4, cells := 0, slots := 0, locals := 90 } s m ([.ref (G.2.2 0)] : List Value).toArray below meth c H locs 0 0 (MQ below (va_Qi post (Sy G) (SA G)) ([.ref (G.2.2 0)] : List Value).toArray s 0 0 (SA G)) (F0 m 4 ls []) := by
    intro n
    induction n with
    | zero => intro _ _ _ _ h; exact absurd h (Nat.not_lt_zero _)
    | succ n ih8 =>
      intro v1_1 v2_2 T3 hI hlt9 H locs hP hS ls hl
      have hw := hst7 (v1_1, v2_2) T3 hI
      unfold wb_X6_bringBack_4 at hw
      refine lv_iload_n hx hb dX6_bringBack_4 rfl (lv_at hl 0 rfl) ?_
      refine lv_aload_n hx hb dX6_bringBack_5 rfl (lv_at hl 2 rfl) ?_
      refine gf_X6_92 C hP (o := 0) rfl dX6_bringBack_6 ?_
      refine lv_icmp_ge (tgt := 65) hx hb dX6_bringBack_9 (by decide) (fun hc11 => ?_) (fun hc11 => ?_)
      · have hw := hw.1 hc11
        refine lv_aload_n hx hb dX6_bringBack_65 rfl (lv_at hl 2 rfl) ?_
        refine lv_dup hx hb dX6_bringBack_66 rfl ?_
        refine gf_X6_246 C hP (o := 0) rfl dX6_bringBack_67 ?_
        refine lv_iload_n hx hb dX6_bringBack_70 rfl (lv_at hl 1 rfl) ?_
        refine lv_iadd hx hb dX6_bringBack_71 ?_
        refine pf_X6_246 C hP hS (fun _ h => h) (o := 0) rfl dX6_bringBack_72 (fun H locs hP hS => ?_)
        refine lv_iload_n hx hb dX6_bringBack_75 rfl (lv_at hl 1 rfl) ?_
        exact sy_iret C hr hlocks hP hS hw dX6_bringBack_76
      · have hw := hw.2 hc11
        refine lv_aload_n hx hb dX6_bringBack_12 rfl (lv_at hl 2 rfl) ?_
        refine gf_X6_21 C hP (o := 0) rfl dX6_bringBack_13 ?_
        refine lv_iload_n hx hb dX6_bringBack_16 rfl (lv_at hl 0 rfl) ?_
        refine sy_goi (sy_runV C hP rfl rfl (m_X4_hasLive l G hi _ _ rfl _ _ hw) mw_X4_hasLive w_347 w_348 w_346 (rest := []) rfl hl.1 rfl (Nat.le_of_ble_eq_true rfl) ⟨Nat.le_of_ble_eq_true rfl, Nat.le_of_ble_eq_true rfl⟩ dX6_bringBack_17 ⟨Nat.zero_le _, Nat.zero_le _⟩) hS (fun _ h => h) (fun r13 T12 H locs hw hP hS => ?_)
        refine lv_if_ne (tgt := 59) hx hb dX6_bringBack_20 (by decide) (fun hc14 => ?_) (fun hc14 => ?_)
        · have hw := hw.1 hc14
          refine lv_iinc (v := v2_2 + 1) (lv' := [(2, .int (v2_2 + 1)), (1, .int v1_1), (0, .ref (G.2.2 0))]) hx hb dX6_bringBack_59 hl (k := 0) rfl rfl (by decide) rfl (fun ls hl => ?_)
          refine lv_goto (tgt := 4) hx hb dX6_bringBack_62 (by decide) ?_
          exact ih8 _ _ _ hw.1 (Nat.lt_of_lt_of_le hw.2 (Nat.le_of_lt_succ hlt9)) _ _ hP hS ls (lv_sub hl [0, 1, 2] rfl)
        · have hw := hw.2 hc14
          refine lv_aload_n hx hb dX6_bringBack_23 rfl (lv_at hl 2 rfl) ?_
          refine gf_X6_27 C hP (o := 0) rfl dX6_bringBack_24 ?_
          refine lv_iload_n hx hb dX6_bringBack_27 rfl (lv_at hl 0 rfl) ?_
          obtain ⟨hn15, hw⟩ := hw
          refine sy_aldR C hP hn15 dX6_bringBack_28 ?_
          refine lv_aload_n hx hb dX6_bringBack_29 rfl (lv_at hl 2 rfl) ?_
          refine gf_X6_21 C hP (o := 0) rfl dX6_bringBack_30 ?_
          refine gf_X6_88 C hP (o := 4) rfl dX6_bringBack_33 ?_
          refine sy_goi (sy_runV C hP (ko_ro hn15) rfl (m_X5_canComeBack l G hi _ _ (ko_ro hn15) (ko_by rfl).1 (ko_by rfl).2 _ _ hw) mw_X5_canComeBack w_528 w_529 w_527 (rest := []) rfl hl.1 rfl (Nat.le_of_ble_eq_true rfl) ⟨Nat.le_of_ble_eq_true rfl, Nat.le_of_ble_eq_true rfl⟩ dX6_bringBack_36 ⟨Nat.zero_le _, Nat.zero_le _⟩) hS (fun _ h => h) (fun r17 T16 H locs hw hP hS => ?_)
          refine lv_if_eq (tgt := 59) hx hb dX6_bringBack_39 (by decide) (fun hc18 => ?_) (fun hc18 => ?_)
          · have hw := hw.1 hc18
            refine lv_iinc (v := v2_2 + 1) (lv' := [(2, .int (v2_2 + 1)), (1, .int v1_1), (0, .ref (G.2.2 0))]) hx hb dX6_bringBack_59 hl (k := 0) rfl rfl (by decide) rfl (fun ls hl => ?_)
            refine lv_goto (tgt := 4) hx hb dX6_bringBack_62 (by decide) ?_
            exact ih8 _ _ _ hw.1 (Nat.lt_of_lt_of_le hw.2 (Nat.le_of_lt_succ hlt9)) _ _ hP hS ls (lv_sub hl [0, 1, 2] rfl)
          · have hw := hw.2 hc18
            refine lv_aload_n hx hb dX6_bringBack_42 rfl (lv_at hl 2 rfl) ?_
            refine gf_X6_27 C hP (o := 0) rfl dX6_bringBack_43 ?_
            refine lv_iload_n hx hb dX6_bringBack_46 rfl (lv_at hl 0 rfl) ?_
            obtain ⟨hn19, hw⟩ := hw
            refine sy_aldR C hP hn19 dX6_bringBack_47 ?_
            refine sy_gov (sy_runV C hP (ko_ro hn19) rfl (m_X5_takeBack l G hi _ (ko_ro hn19) _ _ hw) mw_X5_takeBack w_537 w_538 w_536 (rest := []) rfl hl.1 rfl (Nat.le_of_ble_eq_true rfl) ⟨Nat.le_of_ble_eq_true rfl, Nat.le_of_ble_eq_true rfl⟩ dX6_bringBack_48 ⟨Nat.zero_le _, Nat.zero_le _⟩) hS (fun _ h => h) (fun T20 H locs hw hP hS => ?_)
            refine lv_aload_n hx hb dX6_bringBack_51 rfl (lv_at hl 2 rfl) ?_
            refine lv_iload_n hx hb dX6_bringBack_52 rfl (lv_at hl 0 rfl) ?_
            refine sy_gov (sy_runV C hP rfl rfl (m_X6_giveMember l G hi _ _ _ hw) mw_X6_giveMember w_392 ws_9 w_390 (rest := []) rfl hl.1 rfl (Nat.le_of_ble_eq_true rfl) ⟨Nat.le_of_ble_eq_true rfl, Nat.le_of_ble_eq_true rfl⟩ dX6_bringBack_53 ⟨Nat.zero_le _, Nat.zero_le _⟩) hS (fun _ h => h) (fun T22 H locs hw hP hS => ?_)
            refine lv_iinc (v := v1_1 + 1) (lv' := [(1, .int (v1_1 + 1)), (2, .int v2_2), (0, .ref (G.2.2 0))]) hx hb dX6_bringBack_56 hl (k := 1) rfl rfl (by decide) rfl (fun ls hl => ?_)
            refine lv_iinc (v := v2_2 + 1) (lv' := [(2, .int (v2_2 + 1)), (1, .int (v1_1 + 1)), (0, .ref (G.2.2 0))]) hx hb dX6_bringBack_59 hl (k := 1) rfl rfl (by decide) rfl (fun ls hl => ?_)
            refine lv_goto (tgt := 4) hx hb dX6_bringBack_62 (by decide) ?_
            exact ih8 _ _ _ hw.1 (Nat.lt_of_lt_of_le hw.2 (Nat.le_of_lt_succ hlt9)) _ _ hP hS ls (lv_sub hl [0, 1, 2] rfl)
  exact L10 _ _ _ _ hI (Nat.lt_succ_self _) _ _ hP hS ls (lv_sub hl [0, 1, 2] rfl)
theorem mw_X6_returnTo : MW yX6_returnTo cX6_returnTo 3 (some .int) 1 := ⟨w_522, w_1, by decide +kernel⟩
def wb_X6_returnTo_9 (q1 : Nat) (k5 : (Int32) → St → Prop) (v2_3 : Int32) (T4 : St) (post : Int32 → St → Prop) : Prop :=
 (256 ≤ v2_3 → wp_X6_layDroppedAside T4 (fun r14 T13 => wp_X6_bringBack T13 (fun r16 T15 => post (r14 + (100 * r16)) T15))) ∧ (¬ 256 ≤ v2_3 → vp_in v2_3 256 ∧ (wp_X4_become 4 v2_3 (T4.1 q1 v2_3.toNatClampNeg) T4 (fun T18 => k5 (v2_3 + 1) T18)))
def wp_X6_returnTo (q1 : Nat) (T : St) (post : Int32 → St → Prop) : Prop :=
  wp_X4_beginChanges 4 T (fun T1 => LW (fun kl (vl : Int32) Tl => wb_X6_returnTo_9 q1 kl vl Tl post) 0 T1)
set_option maxHeartbeats 4000000 in
set_option maxRecDepth 100000 in
theorem m_X6_returnTo (l : Launch) (G : Gm) (hi : Inj G) (q1 : Nat) (hq1 : ko q1 = 10) (nq1 : len q1 = 256) (T : St) (post : Int32 → St → Prop) (hw : wp_X6_returnTo q1 T post) : Mi l yX6_returnTo cX6_returnTo 3 (some .int) 5 112 G [.ref (G.2.2 0), .ref (G.2.2 q1)] T post := by
  refine sy_head hi (by decide) (Nat.le_of_ble_eq_true rfl) (lv := [(0, .ref (G.2.2 0)), (1, .ref (G.2.2 q1))]) rfl ?_
  intro p e s m below meth c C hr hlocks hP hS ls hl
  have C : Cx p s m _ c cX6_returnTo 3 RX6 G := C
  obtain ⟨hx, hb, hml, hown, hg, hK, hN, -⟩ := id C
  unfold wp_X6_returnTo at hw
  refine lv_aload_n hx hb dX6_returnTo_0 rfl (lv_at hl 0 rfl) ?_
  refine gf_X6_21 C hP (o := 0) rfl dX6_returnTo_1 ?_
  refine sy_gov (sy_runV C hP rfl rfl (m_X4_beginChanges l G hi _ rfl _ _ hw) mw_X4_beginChanges w_289 w_290 w_288 (rest := []) rfl hl.1 rfl (Nat.le_of_ble_eq_true rfl) ⟨Nat.le_of_ble_eq_true rfl, Nat.le_of_ble_eq_true rfl⟩ dX6_returnTo_4 ⟨Nat.zero_le _, Nat.zero_le _⟩) hS (fun _ h => h) (fun T1 H locs hw hP hS => ?_)
  refine lv_iconst (v := 0) hx hb dX6_returnTo_7 (by decide) ?_
  refine lv_istore_n (lv' := [(2, .int 0), (0, .ref (G.2.2 0)), (1, .ref (G.2.2 q1))]) hx hb dX6_returnTo_8 rfl hl (by decide) rfl (fun ls hl => ?_)
  obtain ⟨I6, u7, hI, hst8⟩ := hw
  have L11 : ∀ (n : Nat) (v2_3 : Int32) (T4 : St), I6 v2_3 T4 → u7 v2_3 T4 < n → ∀ (H : Heap) (locs : List Loc), va_P G.1 sc_cl (wd G T4) H → va_S (SA G) s.heap H locs → ∀ ls : Array Slot, lv_has ls 3 [(2, .int v2_3), (0, .ref (G.2.2 0)), (1, .ref (G.2.2 q1))] → W p l e { frames := 5, cells := 0, slots := 0, locals := 112 } s m ([.ref (G.2.2 0), .ref (G.2.2 q1)] : List Value).toArray below meth c H locs 0 0 (MQ below (va_Qi post (Sy G) (SA G)) ([.ref (G.2.2 0), .ref (G.2.2 q1)] : List Value).toArray s 0 0 (SA G)) (F0 m 9 ls []) := by
    intro n
    induction n with
    | zero => intro _ _ _ h; exact absurd h (Nat.not_lt_zero _)
    | succ n ih9 =>
      intro v2_3 T4 hI hlt10 H locs hP hS ls hl
      have hw := hst8 v2_3 T4 hI
      unfold wb_X6_returnTo_9 at hw
      refine lv_iload_n hx hb dX6_returnTo_9 rfl (lv_at hl 0 rfl) ?_
      refine lv_sipush (v := 256) hx hb dX6_returnTo_10 (by decide) ?_
      refine lv_icmp_ge (tgt := 33) hx hb dX6_returnTo_13 (by decide) (fun hc12 => ?_) (fun hc12 => ?_)
      · have hw := hw.1 hc12
        refine lv_aload_n hx hb dX6_returnTo_33 rfl (lv_at hl 1 rfl) ?_
        refine sy_goi (sy_runV C hP rfl rfl (m_X6_layDroppedAside l G hi  _ _ hw) mw_X6_layDroppedAside w_306 ws_2 w_304 (rest := []) rfl hl.1 rfl (Nat.le_of_ble_eq_true rfl) ⟨Nat.le_of_ble_eq_true rfl, Nat.le_of_ble_eq_true rfl⟩ dX6_returnTo_34 ⟨Nat.zero_le _, Nat.zero_le _⟩) hS (fun _ h => h) (fun r14 T13 H locs hw hP hS => ?_)
        refine lv_istore_n (lv' := [(2, .int r14), (0, .ref (G.2.2 0)), (1, .ref (G.2.2 q1))]) hx hb dX6_returnTo_37 rfl hl (by decide) rfl (fun ls hl => ?_)
        refine lv_iload_n hx hb dX6_returnTo_38 rfl (lv_at hl 0 rfl) ?_
        refine lv_bipush (v := 100) hx hb dX6_returnTo_39 (by decide) ?_
        refine lv_aload_n hx hb dX6_returnTo_41 rfl (lv_at hl 1 rfl) ?_
        refine sy_goi (sy_runV C hP rfl rfl (m_X6_bringBack l G hi  _ _ hw) mw_X6_bringBack w_525 ws_21 w_523 (rest := [.int 100, .int r14]) rfl hl.1 rfl (Nat.le_of_ble_eq_true rfl) ⟨Nat.le_of_ble_eq_true rfl, Nat.le_of_ble_eq_true rfl⟩ dX6_returnTo_42 ⟨Nat.zero_le _, Nat.zero_le _⟩) hS (fun _ h => h) (fun r16 T15 H locs hw hP hS => ?_)
        refine lv_imul hx hb dX6_returnTo_45 ?_
        refine lv_iadd hx hb dX6_returnTo_46 ?_
        exact sy_iret C hr hlocks hP hS hw dX6_returnTo_47
      · have hw := hw.2 hc12
        refine lv_aload_n hx hb dX6_returnTo_16 rfl (lv_at hl 1 rfl) ?_
        refine gf_X6_21 C hP (o := 0) rfl dX6_returnTo_17 ?_
        refine lv_iload_n hx hb dX6_returnTo_20 rfl (lv_at hl 0 rfl) ?_
        refine lv_aload_n hx hb dX6_returnTo_21 rfl (lv_at hl 2 rfl) ?_
        refine lv_iload_n hx hb dX6_returnTo_22 rfl (lv_at hl 0 rfl) ?_
        obtain ⟨hn17, hw⟩ := hw
        refine sy_iald C hP (o := q1) hq1 nq1 hn17 dX6_returnTo_23 ?_
        refine sy_gov (sy_runV C hP rfl rfl (m_X4_become l G hi _ _ _ rfl _ _ hw) mw_X4_become w_293 w_294 w_292 (rest := []) rfl hl.1 rfl (Nat.le_of_ble_eq_true rfl) ⟨Nat.le_of_ble_eq_true rfl, Nat.le_of_ble_eq_true rfl⟩ dX6_returnTo_24 ⟨Nat.zero_le _, Nat.zero_le _⟩) hS (fun _ h => h) (fun T18 H locs hw hP hS => ?_)
        refine lv_iinc (v := v2_3 + 1) (lv' := [(2, .int (v2_3 + 1)), (0, .ref (G.2.2 0)), (1, .ref (G.2.2 q1))]) hx hb dX6_returnTo_27 hl (k := 0) rfl rfl (by decide) rfl (fun ls hl => ?_)
        refine lv_goto (tgt := 9) hx hb dX6_returnTo_30 (by decide) ?_
        exact ih9 _ _ hw.1 (Nat.lt_of_lt_of_le hw.2 (Nat.le_of_lt_succ hlt10)) _ _ hP hS ls (lv_sub hl [0, 1, 2] rfl)
  exact L11 _ _ _ hI (Nat.lt_succ_self _) _ _ hP hS ls (lv_sub hl [0, 1, 2] rfl)
theorem mw_X6_restore : MW yX6_restore cX6_restore 2 (some .int) 1 := ⟨w_518, w_1, by decide +kernel⟩
def wp_X6_restore (a1 : Int32) (T : St) (post : Int32 → St → Prop) : Prop :=
  (a1 < 0 → post (-1) T) ∧ (¬ a1 < 0 → (a1 < T.1 0 10 → vp_in a1 4 ∧ (wp_X6_returnTo (18 + 1 + a1.toNatClampNeg) T (fun r5 T4 => post r5 T4))) ∧ (¬ a1 < T.1 0 10 → post (-1) T))
set_option maxHeartbeats 4000000 in
set_option maxRecDepth 100000 in
theorem m_X6_restore (l : Launch) (G : Gm) (hi : Inj G) (a1 : Int32)  (T : St) (post : Int32 → St → Prop) (hw : wp_X6_restore a1 T post) : Mi l yX6_restore cX6_restore 2 (some .int) 6 134 G [.ref (G.2.2 0), .int a1] T post := by
  refine sy_head hi (by decide) (Nat.le_of_ble_eq_true rfl) (lv := [(0, .ref (G.2.2 0)), (1, .int a1)]) rfl ?_
  intro p e s m below meth c C hr hlocks hP hS ls hl
  have C : Cx p s m _ c cX6_restore 2 RX6 G := C
  obtain ⟨hx, hb, hml, hown, hg, hK, hN, -⟩ := id C
  unfold wp_X6_restore at hw
  refine lv_iload_n hx hb dX6_restore_0 rfl (lv_at hl 1 rfl) ?_
  refine lv_if_lt (tgt := 12) hx hb dX6_restore_1 (by decide) (fun hc1 => ?_) (fun hc1 => ?_)
  · have hw := hw.1 hc1
    refine lv_iconst (v := (-1)) hx hb dX6_restore_12 (by decide) ?_
    exact sy_iret C hr hlocks hP hS hw dX6_restore_13
  · have hw := hw.2 hc1
    refine lv_iload_n hx hb dX6_restore_4 rfl (lv_at hl 1 rfl) ?_
    refine lv_aload_n hx hb dX6_restore_5 rfl (lv_at hl 0 rfl) ?_
    refine gf_X6_215 C hP (o := 0) rfl dX6_restore_6 ?_
    refine lv_icmp_lt (tgt := 14) hx hb dX6_restore_9 (by decide) (fun hc2 => ?_) (fun hc2 => ?_)
    · have hw := hw.1 hc2
      refine lv_aload_n hx hb dX6_restore_14 rfl (lv_at hl 0 rfl) ?_
      refine lv_aload_n hx hb dX6_restore_15 rfl (lv_at hl 0 rfl) ?_
      refine gf_X6_40 C hP (o := 0) rfl dX6_restore_16 ?_
      refine lv_iload_n hx hb dX6_restore_19 rfl (lv_at hl 1 rfl) ?_
      obtain ⟨hn3, hw⟩ := hw
      refine sy_aldG C hP (o := 18) rfl rfl hn3 dX6_restore_20 ?_
      refine sy_goi (sy_runV C hP rfl rfl (m_X6_returnTo l G hi _ (ko_row (Or.inr ⟨rfl, rfl⟩) hn3).1 (ko_row (Or.inr ⟨rfl, rfl⟩) hn3).2 _ _ hw) mw_X6_returnTo w_521 ws_20 w_519 (rest := []) rfl hl.1 rfl (Nat.le_of_ble_eq_true rfl) ⟨Nat.le_of_ble_eq_true rfl, Nat.le_of_ble_eq_true rfl⟩ dX6_restore_21 ⟨Nat.zero_le _, Nat.zero_le _⟩) hS (fun _ h => h) (fun r5 T4 H locs hw hP hS => ?_)
      exact sy_iret C hr hlocks hP hS hw dX6_restore_24
    · have hw := hw.2 hc2
      refine lv_iconst (v := (-1)) hx hb dX6_restore_12 (by decide) ?_
      exact sy_iret C hr hlocks hP hS hw dX6_restore_13
theorem mw_X6_undo : MW yX6_undo cX6_undo 1 (some .int) 0 := ⟨w_543, w_1, by decide +kernel⟩
def wp_X6_undo (T : St) (post : Int32 → St → Prop) : Prop :=
  (¬ T.1 7 2 = 0 → wp_X2_takeLatest T (fun r3 T2 => (ko r3 = 10 ∧ len r3 = 256) ∧ (wp_X6_returnTo r3 T2 (fun r6 T5 => post r6 T5)))) ∧ (T.1 7 2 = 0 → post (-3) T)
set_option maxHeartbeats 4000000 in
set_option maxRecDepth 100000 in
theorem m_X6_undo (l : Launch) (G : Gm) (hi : Inj G)   (T : St) (post : Int32 → St → Prop) (hw : wp_X6_undo T post) : Mi l yX6_undo cX6_undo 1 (some .int) 6 134 G [.ref (G.2.2 0)] T post := by
  refine sy_head hi (by decide) (Nat.le_of_ble_eq_true rfl) (lv := [(0, .ref (G.2.2 0))]) rfl ?_
  intro p e s m below meth c C hr hlocks hP hS ls hl
  have C : Cx p s m _ c cX6_undo 1 RX6 G := C
  obtain ⟨hx, hb, hml, hown, hg, hK, hN, -⟩ := id C
  unfold wp_X6_undo at hw
  refine lv_aload_n hx hb dX6_undo_0 rfl (lv_at hl 0 rfl) ?_
  refine gf_X6_34 C hP (o := 0) rfl dX6_undo_1 ?_
  refine gf_X6_228 C hP (o := 7) rfl dX6_undo_4 ?_
  refine lv_if_ne (tgt := 13) hx hb dX6_undo_7 (by decide) (fun hc1 => ?_) (fun hc1 => ?_)
  · have hw := hw.1 hc1
    refine lv_aload_n hx hb dX6_undo_13 rfl (lv_at hl 0 rfl) ?_
    refine lv_aload_n hx hb dX6_undo_14 rfl (lv_at hl 0 rfl) ?_
    refine gf_X6_34 C hP (o := 0) rfl dX6_undo_15 ?_
    refine sy_gor (sy_runV C hP rfl rfl (m_X2_takeLatest l G hi  _ _ hw) mw_X2_takeLatest w_545 w_546 w_544 (rest := [.ref (G.2.2 0)]) rfl hl.1 rfl (Nat.le_of_ble_eq_true rfl) ⟨Nat.le_of_ble_eq_true rfl, Nat.le_of_ble_eq_true rfl⟩ dX6_undo_18 ⟨Nat.zero_le _, Nat.zero_le _⟩) hS (fun _ h => h) (fun r3 T2 H locs hw hP hS => ?_)
    obtain ⟨hk4, hw⟩ := hw
    refine sy_goi (sy_runV C hP rfl rfl (m_X6_returnTo l G hi _ hk4.1 hk4.2 _ _ hw) mw_X6_returnTo w_521 ws_20 w_519 (rest := []) rfl hl.1 rfl (Nat.le_of_ble_eq_true rfl) ⟨Nat.le_of_ble_eq_true rfl, Nat.le_of_ble_eq_true rfl⟩ dX6_undo_21 ⟨Nat.zero_le _, Nat.zero_le _⟩) hS (fun _ h => h) (fun r6 T5 H locs hw hP hS => ?_)
    exact sy_iret C hr hlocks hP hS hw dX6_undo_24
  · have hw := hw.2 hc1
    refine lv_bipush (v := (-3)) hx hb dX6_undo_10 (by decide) ?_
    exact sy_iret C hr hlocks hP hS hw dX6_undo_12
theorem mw_X6_countWalkedForGood : MW yX6_countWalkedForGood cX6_countWalkedForGood 3 (some .int) 0 := ⟨w_555, w_1, by decide +kernel⟩
def wb_X6_countWalkedForGood_4  (k4 : (Int32 × Int32) → St → Prop) (v1_1 : Int32) (v2_2 : Int32) (T3 : St) (post : Int32 → St → Prop) : Prop :=
 (T3.1 0 9 ≤ v2_2 → post v1_1 T3) ∧ (¬ T3.1 0 9 ≤ v2_2 → vp_in v2_2 10 ∧ (wp_X5_isWalkedForGood (27 + 9 * v2_2.toNatClampNeg) T3 (fun r14 T13 => (r14 = 0 → k4 (v1_1, v2_2 + 1) T13) ∧ (¬ r14 = 0 → k4 (v1_1 + 1, v2_2 + 1) T13))))
def wp_X6_countWalkedForGood (T : St) (post : Int32 → St → Prop) : Prop :=
  LW (fun kl (vl : Int32 × Int32) Tl => wb_X6_countWalkedForGood_4 kl vl.1 vl.2 Tl post) (0, 0) T
set_option maxHeartbeats 4000000 in
set_option maxRecDepth 100000 in
theorem m_X6_countWalkedForGood (l : Launch) (G : Gm) (hi : Inj G)   (T : St) (post : Int32 → St → Prop) (hw : wp_X6_countWalkedForGood T post) : Mi l yX6_countWalkedForGood cX6_countWalkedForGood 3 (some .int) 1 20 G [.ref (G.2.2 0)] T post := by
  refine sy_head hi (by decide) (Nat.le_of_ble_eq_true rfl) (lv := [(0, .ref (G.2.2 0))]) rfl ?_
  intro p e s m below meth c C hr hlocks hP hS ls hl
  have C : Cx p s m _ c cX6_countWalkedForGood 3 RX6 G := C
  obtain ⟨hx, hb, hml, hown, hg, hK, hN, -⟩ := id C
  unfold wp_X6_countWalkedForGood at hw
  refine lv_iconst (v := 0) hx hb dX6_countWalkedForGood_0 (by decide) ?_
  refine lv_istore_n (lv' := [(1, .int 0), (0, .ref (G.2.2 0))]) hx hb dX6_countWalkedForGood_1 rfl hl (by decide) rfl (fun ls hl => ?_)
  refine lv_iconst (v := 0) hx hb dX6_countWalkedForGood_2 (by decide) ?_
  refine lv_istore_n (lv' := [(2, .int 0), (1, .int 0), (0, .ref (G.2.2 0))]) hx hb dX6_countWalkedForGood_3 rfl hl (by decide) rfl (fun ls hl => ?_)
  obtain ⟨I5, u6, hI, hst7⟩ := hw
  have L10 : ∀ (n : Nat) (v1_1 : Int32) (v2_2 : Int32) (T3 : St), I5 (v1_1, v2_2) T3 → u6 (v1_1, v2_2) T3 < n → ∀ (H : Heap) (locs : List Loc), va_P G.1 sc_cl (wd G T3) H → va_S (SA G) s.heap H locs → ∀ ls : Array Slot, lv_has ls 3 [(2, .int v2_2), (1, .int v1_1), (0, .ref (G.2.2 0))] → W p l e { frames := 1, cells := 0, slots := 0, locals := 20 } s m ([.ref (G.2.2 0)] : List Value).toArray below meth c H locs 0 0 (MQ below (va_Qi post (Sy G) (SA G)) ([.ref (G.2.2 0)] : List Value).toArray s 0 0 (SA G)) (F0 m 4 ls []) := by
    intro n
    induction n with
    | zero => intro _ _ _ _ h; exact absurd h (Nat.not_lt_zero _)
    | succ n ih8 =>
      intro v1_1 v2_2 T3 hI hlt9 H locs hP hS ls hl
      have hw := hst7 (v1_1, v2_2) T3 hI
      unfold wb_X6_countWalkedForGood_4 at hw
      refine lv_iload_n hx hb dX6_countWalkedForGood_4 rfl (lv_at hl 0 rfl) ?_
      refine lv_aload_n hx hb dX6_countWalkedForGood_5 rfl (lv_at hl 2 rfl) ?_
      refine gf_X6_92 C hP (o := 0) rfl dX6_countWalkedForGood_6 ?_
      refine lv_icmp_ge (tgt := 33) hx hb dX6_countWalkedForGood_9 (by decide) (fun hc11 => ?_) (fun hc11 => ?_)
      · have hw := hw.1 hc11
        refine lv_iload_n hx hb dX6_countWalkedForGood_33 rfl (lv_at hl 1 rfl) ?_
        exact sy_iret C hr hlocks hP hS hw dX6_countWalkedForGood_34
      · have hw := hw.2 hc11
        refine lv_aload_n hx hb dX6_countWalkedForGood_12 rfl (lv_at hl 2 rfl) ?_
        refine gf_X6_27 C hP (o := 0) rfl dX6_countWalkedForGood_13 ?_
        refine lv_iload_n hx hb dX6_countWalkedForGood_16 rfl (lv_at hl 0 rfl) ?_
        obtain ⟨hn12, hw⟩ := hw
        refine sy_aldR C hP hn12 dX6_countWalkedForGood_17 ?_
        refine sy_goi (sy_runV C hP (ko_ro hn12) rfl (m_X5_isWalkedForGood l G hi _ (ko_ro hn12) _ _ hw) mw_X5_isWalkedForGood w_351 w_352 w_350 (rest := []) rfl hl.1 rfl (Nat.le_of_ble_eq_true rfl) ⟨Nat.le_of_ble_eq_true rfl, Nat.le_of_ble_eq_true rfl⟩ dX6_countWalkedForGood_18 ⟨Nat.zero_le _, Nat.zero_le _⟩) hS (fun _ h => h) (fun r14 T13 H locs hw hP hS => ?_)
        refine lv_if_eq (tgt := 27) hx hb dX6_countWalkedForGood_21 (by decide) (fun hc15 => ?_) (fun hc15 => ?_)
        · have hw := hw.1 hc15
          refine lv_iinc (v := v2_2 + 1) (lv' := [(2, .int (v2_2 + 1)), (1, .int v1_1), (0, .ref (G.2.2 0))]) hx hb dX6_countWalkedForGood_27 hl (k := 0) rfl rfl (by decide) rfl (fun ls hl => ?_)
          refine lv_goto (tgt := 4) hx hb dX6_countWalkedForGood_30 (by decide) ?_
          exact ih8 _ _ _ hw.1 (Nat.lt_of_lt_of_le hw.2 (Nat.le_of_lt_succ hlt9)) _ _ hP hS ls (lv_sub hl [0, 1, 2] rfl)
        · have hw := hw.2 hc15
          refine lv_iinc (v := v1_1 + 1) (lv' := [(1, .int (v1_1 + 1)), (2, .int v2_2), (0, .ref (G.2.2 0))]) hx hb dX6_countWalkedForGood_24 hl (k := 1) rfl rfl (by decide) rfl (fun ls hl => ?_)
          refine lv_iinc (v := v2_2 + 1) (lv' := [(2, .int (v2_2 + 1)), (1, .int (v1_1 + 1)), (0, .ref (G.2.2 0))]) hx hb dX6_countWalkedForGood_27 hl (k := 1) rfl rfl (by decide) rfl (fun ls hl => ?_)
          refine lv_goto (tgt := 4) hx hb dX6_countWalkedForGood_30 (by decide) ?_
          exact ih8 _ _ _ hw.1 (Nat.lt_of_lt_of_le hw.2 (Nat.le_of_lt_succ hlt9)) _ _ hP hS ls (lv_sub hl [0, 1, 2] rfl)
  exact L10 _ _ _ _ hI (Nat.lt_succ_self _) _ _ hP hS ls (lv_sub hl [0, 1, 2] rfl)
theorem mw_X6_count : MW yX6_count cX6_count 2 (some .int) 1 := ⟨w_551, w_1, by decide +kernel⟩
def wp_X6_count (a1 : Int32) (T : St) (post : Int32 → St → Prop) : Prop :=
  (a1 = 0 → post (T.1 0 9) T) ∧ (¬ a1 = 0 → (a1 = 1 → wp_J6_bitCount_0f7a4 (T.1 4 2) T (fun r4 T3 => post r4 T3)) ∧ (¬ a1 = 1 → (a1 = 2 → post (T.1 0 10) T) ∧ (¬ a1 = 2 → (a1 = 3 → post (T.1 7 2) T) ∧ (¬ a1 = 3 → (a1 = 4 → post (T.1 4 4) T) ∧ (¬ a1 = 4 → (a1 = 5 → post (T.1 0 11) T) ∧ (¬ a1 = 5 → (a1 = 6 → post (T.1 0 12) T) ∧ (¬ a1 = 6 → (a1 = 7 → post (T.1 0 13) T) ∧ (¬ a1 = 7 → (a1 = 8 → wp_X6_countWalkedForGood T (fun r13 T12 => post r13 T12)) ∧ (¬ a1 = 8 → post (-2) T)))))))))
set_option maxHeartbeats 4000000 in
set_option maxRecDepth 100000 in
theorem m_X6_count (l : Launch) (G : Gm) (hi : Inj G) (a1 : Int32)  (T : St) (post : Int32 → St → Prop) (hw : wp_X6_count a1 T post) : Mi l yX6_count cX6_count 2 (some .int) 2 42 G [.ref (G.2.2 0), .int a1] T post := by
  refine sy_head hi (by decide) (Nat.le_of_ble_eq_true rfl) (lv := [(0, .ref (G.2.2 0)), (1, .int a1)]) rfl ?_
  intro p e s m below meth c C hr hlocks hP hS ls hl
  have C : Cx p s m _ c cX6_count 2 RX6 G := C
  obtain ⟨hx, hb, hml, hown, hg, hK, hN, -⟩ := id C
  unfold wp_X6_count at hw
  refine lv_iload_n hx hb dX6_count_0 rfl (lv_at hl 1 rfl) ?_
  by_cases hs1 : a1 = 0
  · have hw := hw.1 hs1
    refine lv_tableIn (off := 51) (tgt := 52) hx hb dX6_count_1 (by rw [hs1]; decide) (by rw [hs1]; decide) (by rw [hs1]; rfl) (by decide) ?_
    refine lv_aload_n hx hb dX6_count_52 rfl (lv_at hl 0 rfl) ?_
    refine gf_X6_92 C hP (o := 0) rfl dX6_count_53 ?_
    exact sy_iret C hr hlocks hP hS hw dX6_count_56
  · have hw := hw.2 hs1
    by_cases hs2 : a1 = 1
    · have hw := hw.1 hs2
      refine lv_tableIn (off := 56) (tgt := 57) hx hb dX6_count_1 (by rw [hs2]; decide) (by rw [hs2]; decide) (by rw [hs2]; rfl) (by decide) ?_
      refine lv_aload_n hx hb dX6_count_57 rfl (lv_at hl 0 rfl) ?_
      refine gf_X6_21 C hP (o := 0) rfl dX6_count_58 ?_
      refine gf_X6_195 C hP (o := 4) rfl dX6_count_61 ?_
      refine sy_goi (sy_runS C hP (m_J6_bitCount_0f7a4 l G hi _ _ _ hw) mw_J6_bitCount_0f7a4 w_472 w_509 (rest := []) rfl hl.1 rfl (Nat.le_of_ble_eq_true rfl) ⟨Nat.le_of_ble_eq_true rfl, Nat.le_of_ble_eq_true rfl⟩ dX6_count_64 ⟨Nat.zero_le _, Nat.zero_le _⟩) hS (fun _ h => h) (fun r4 T3 H locs hw hP hS => ?_)
      exact sy_iret C hr hlocks hP hS hw dX6_count_67
    · have hw := hw.2 hs2
      by_cases hs5 : a1 = 2
      · have hw := hw.1 hs5
        refine lv_tableIn (off := 67) (tgt := 68) hx hb dX6_count_1 (by rw [hs5]; decide) (by rw [hs5]; decide) (by rw [hs5]; rfl) (by decide) ?_
        refine lv_aload_n hx hb dX6_count_68 rfl (lv_at hl 0 rfl) ?_
        refine gf_X6_215 C hP (o := 0) rfl dX6_count_69 ?_
        exact sy_iret C hr hlocks hP hS hw dX6_count_72
      · have hw := hw.2 hs5
        by_cases hs6 : a1 = 3
        · have hw := hw.1 hs6
          refine lv_tableIn (off := 72) (tgt := 73) hx hb dX6_count_1 (by rw [hs6]; decide) (by rw [hs6]; decide) (by rw [hs6]; rfl) (by decide) ?_
          refine lv_aload_n hx hb dX6_count_73 rfl (lv_at hl 0 rfl) ?_
          refine gf_X6_34 C hP (o := 0) rfl dX6_count_74 ?_
          refine gf_X6_228 C hP (o := 7) rfl dX6_count_77 ?_
          exact sy_iret C hr hlocks hP hS hw dX6_count_80
        · have hw := hw.2 hs6
          by_cases hs7 : a1 = 4
          · have hw := hw.1 hs7
            refine lv_tableIn (off := 80) (tgt := 81) hx hb dX6_count_1 (by rw [hs7]; decide) (by rw [hs7]; decide) (by rw [hs7]; rfl) (by decide) ?_
            refine lv_aload_n hx hb dX6_count_81 rfl (lv_at hl 0 rfl) ?_
            refine gf_X6_21 C hP (o := 0) rfl dX6_count_82 ?_
            refine gf_X6_240 C hP (o := 4) rfl dX6_count_85 ?_
            exact sy_iret C hr hlocks hP hS hw dX6_count_88
          · have hw := hw.2 hs7
            by_cases hs8 : a1 = 5
            · have hw := hw.1 hs8
              refine lv_tableIn (off := 88) (tgt := 89) hx hb dX6_count_1 (by rw [hs8]; decide) (by rw [hs8]; decide) (by rw [hs8]; rfl) (by decide) ?_
              refine lv_aload_n hx hb dX6_count_89 rfl (lv_at hl 0 rfl) ?_
              refine gf_X6_120 C hP (o := 0) rfl dX6_count_90 ?_
              exact sy_iret C hr hlocks hP hS hw dX6_count_93
            · have hw := hw.2 hs8
              by_cases hs9 : a1 = 6
              · have hw := hw.1 hs9
                refine lv_tableIn (off := 93) (tgt := 94) hx hb dX6_count_1 (by rw [hs9]; decide) (by rw [hs9]; decide) (by rw [hs9]; rfl) (by decide) ?_
                refine lv_aload_n hx hb dX6_count_94 rfl (lv_at hl 0 rfl) ?_
                refine gf_X6_243 C hP (o := 0) rfl dX6_count_95 ?_
                exact sy_iret C hr hlocks hP hS hw dX6_count_98
              · have hw := hw.2 hs9
                by_cases hs10 : a1 = 7
                · have hw := hw.1 hs10
                  refine lv_tableIn (off := 98) (tgt := 99) hx hb dX6_count_1 (by rw [hs10]; decide) (by rw [hs10]; decide) (by rw [hs10]; rfl) (by decide) ?_
                  refine lv_aload_n hx hb dX6_count_99 rfl (lv_at hl 0 rfl) ?_
                  refine gf_X6_246 C hP (o := 0) rfl dX6_count_100 ?_
                  exact sy_iret C hr hlocks hP hS hw dX6_count_103
                · have hw := hw.2 hs10
                  by_cases hs11 : a1 = 8
                  · have hw := hw.1 hs11
                    refine lv_tableIn (off := 103) (tgt := 104) hx hb dX6_count_1 (by rw [hs11]; decide) (by rw [hs11]; decide) (by rw [hs11]; rfl) (by decide) ?_
                    refine lv_aload_n hx hb dX6_count_104 rfl (lv_at hl 0 rfl) ?_
                    refine sy_goi (sy_runV C hP rfl rfl (m_X6_countWalkedForGood l G hi  _ _ hw) mw_X6_countWalkedForGood w_554 ws_22 w_552 (rest := []) rfl hl.1 rfl (Nat.le_of_ble_eq_true rfl) ⟨Nat.le_of_ble_eq_true rfl, Nat.le_of_ble_eq_true rfl⟩ dX6_count_105 ⟨Nat.zero_le _, Nat.zero_le _⟩) hS (fun _ h => h) (fun r13 T12 H locs hw hP hS => ?_)
                    exact sy_iret C hr hlocks hP hS hw dX6_count_108
                  · have hw := hw.2 hs11
                    have ahs1 : (a1).toInt ≠ 0 := ne_toI hs1
                    have ahs2 : (a1).toInt ≠ 1 := ne_toI hs2
                    have ahs5 : (a1).toInt ≠ 2 := ne_toI hs5
                    have ahs6 : (a1).toInt ≠ 3 := ne_toI hs6
                    have ahs7 : (a1).toInt ≠ 4 := ne_toI hs7
                    have ahs8 : (a1).toInt ≠ 5 := ne_toI hs8
                    have ahs9 : (a1).toInt ≠ 6 := ne_toI hs9
                    have ahs10 : (a1).toInt ≠ 7 := ne_toI hs10
                    have ahs11 : (a1).toInt ≠ 8 := ne_toI hs11
                    refine lv_tableOut (tgt := 109) hx hb dX6_count_1 (by omega) (by decide) ?_
                    refine lv_bipush (v := (-2)) hx hb dX6_count_109 (by decide) ?_
                    exact sy_iret C hr hlocks hP hS hw dX6_count_111
theorem mw_X6_clear : MW yX6_clear cX6_clear 2 (some .int) 0 := ⟨w_559, w_1, by decide +kernel⟩
def wp_X6_clear (T : St) (post : Int32 → St → Prop) : Prop :=
  wp_X4_empty 4 T (fun T1 => wp_X1_empty T1 (fun T3 => wp_X2_empty T3 (fun T5 => wp_X0_empty 117 T5 (fun T7 => post (T.1 0 9) (sv (sv (sv (sv (sv (sv (sv T7 0 9 0) 0 10 0) 0 11 0) 0 12 0) 0 13 0) 0 14 0) 0 15 0)))))
set_option maxHeartbeats 4000000 in
set_option maxRecDepth 100000 in
theorem m_X6_clear (l : Launch) (G : Gm) (hi : Inj G)   (T : St) (post : Int32 → St → Prop) (hw : wp_X6_clear T post) : Mi l yX6_clear cX6_clear 2 (some .int) 2 43 G [.ref (G.2.2 0)] T post := by
  refine sy_head hi (by decide) (Nat.le_of_ble_eq_true rfl) (lv := [(0, .ref (G.2.2 0))]) rfl ?_
  intro p e s m below meth c C hr hlocks hP hS ls hl
  have C : Cx p s m _ c cX6_clear 2 RX6 G := C
  obtain ⟨hx, hb, hml, hown, hg, hK, hN, -⟩ := id C
  unfold wp_X6_clear at hw
  refine lv_aload_n hx hb dX6_clear_0 rfl (lv_at hl 0 rfl) ?_
  refine gf_X6_92 C hP (o := 0) rfl dX6_clear_1 ?_
  refine lv_istore_n (lv' := [(1, .int (T.1 0 9)), (0, .ref (G.2.2 0))]) hx hb dX6_clear_4 rfl hl (by decide) rfl (fun ls hl => ?_)
  refine lv_aload_n hx hb dX6_clear_5 rfl (lv_at hl 1 rfl) ?_
  refine gf_X6_21 C hP (o := 0) rfl dX6_clear_6 ?_
  refine sy_gov (sy_runV C hP rfl rfl (m_X4_empty l G hi _ rfl _ _ hw) mw_X4_empty w_561 w_562 w_560 (rest := []) rfl hl.1 rfl (Nat.le_of_ble_eq_true rfl) ⟨Nat.le_of_ble_eq_true rfl, Nat.le_of_ble_eq_true rfl⟩ dX6_clear_9 ⟨Nat.zero_le _, Nat.zero_le _⟩) hS (fun _ h => h) (fun T1 H locs hw hP hS => ?_)
  refine lv_aload_n hx hb dX6_clear_12 rfl (lv_at hl 1 rfl) ?_
  refine gf_X6_10 C hP (o := 0) rfl dX6_clear_13 ?_
  refine sy_gov (sy_runV C hP rfl rfl (m_X1_empty l G hi  _ _ hw) mw_X1_empty w_568 w_569 w_567 (rest := []) rfl hl.1 rfl (Nat.le_of_ble_eq_true rfl) ⟨Nat.le_of_ble_eq_true rfl, Nat.le_of_ble_eq_true rfl⟩ dX6_clear_16 ⟨Nat.zero_le _, Nat.zero_le _⟩) hS (fun _ h => h) (fun T3 H locs hw hP hS => ?_)
  refine lv_aload_n hx hb dX6_clear_19 rfl (lv_at hl 1 rfl) ?_
  refine gf_X6_34 C hP (o := 0) rfl dX6_clear_20 ?_
  refine sy_gov (sy_runV C hP rfl rfl (m_X2_empty l G hi  _ _ hw) mw_X2_empty w_573 w_574 w_572 (rest := []) rfl hl.1 rfl (Nat.le_of_ble_eq_true rfl) ⟨Nat.le_of_ble_eq_true rfl, Nat.le_of_ble_eq_true rfl⟩ dX6_clear_23 ⟨Nat.zero_le _, Nat.zero_le _⟩) hS (fun _ h => h) (fun T5 H locs hw hP hS => ?_)
  refine lv_aload_n hx hb dX6_clear_26 rfl (lv_at hl 1 rfl) ?_
  refine gf_X6_56 C hP (o := 0) rfl dX6_clear_27 ?_
  refine sy_gov (sy_runV C hP rfl rfl (m_X0_empty l G hi _ rfl _ _ hw) mw_X0_empty w_423 w_424 w_576 (rest := []) rfl hl.1 rfl (Nat.le_of_ble_eq_true rfl) ⟨Nat.le_of_ble_eq_true rfl, Nat.le_of_ble_eq_true rfl⟩ dX6_clear_30 ⟨Nat.zero_le _, Nat.zero_le _⟩) hS (fun _ h => h) (fun T7 H locs hw hP hS => ?_)
  refine lv_aload_n hx hb dX6_clear_33 rfl (lv_at hl 1 rfl) ?_
  refine lv_iconst (v := 0) hx hb dX6_clear_34 (by decide) ?_
  refine pf_X6_92 C hP hS (fun _ h => h) (o := 0) rfl dX6_clear_35 (fun H locs hP hS => ?_)
  refine lv_aload_n hx hb dX6_clear_38 rfl (lv_at hl 1 rfl) ?_
  refine lv_iconst (v := 0) hx hb dX6_clear_39 (by decide) ?_
  refine pf_X6_215 C hP hS (fun _ h => h) (o := 0) rfl dX6_clear_40 (fun H locs hP hS => ?_)
  refine lv_aload_n hx hb dX6_clear_43 rfl (lv_at hl 1 rfl) ?_
  refine lv_iconst (v := 0) hx hb dX6_clear_44 (by decide) ?_
  refine pf_X6_120 C hP hS (fun _ h => h) (o := 0) rfl dX6_clear_45 (fun H locs hP hS => ?_)
  refine lv_aload_n hx hb dX6_clear_48 rfl (lv_at hl 1 rfl) ?_
  refine lv_iconst (v := 0) hx hb dX6_clear_49 (by decide) ?_
  refine pf_X6_243 C hP hS (fun _ h => h) (o := 0) rfl dX6_clear_50 (fun H locs hP hS => ?_)
  refine lv_aload_n hx hb dX6_clear_53 rfl (lv_at hl 1 rfl) ?_
  refine lv_iconst (v := 0) hx hb dX6_clear_54 (by decide) ?_
  refine pf_X6_246 C hP hS (fun _ h => h) (o := 0) rfl dX6_clear_55 (fun H locs hP hS => ?_)
  refine lv_aload_n hx hb dX6_clear_58 rfl (lv_at hl 1 rfl) ?_
  refine lv_iconst (v := 0) hx hb dX6_clear_59 (by decide) ?_
  refine pf_X6_159 C hP hS (fun _ h => h) (o := 0) rfl dX6_clear_60 (fun H locs hP hS => ?_)
  refine lv_aload_n hx hb dX6_clear_63 rfl (lv_at hl 1 rfl) ?_
  refine lv_iconst (v := 0) hx hb dX6_clear_64 (by decide) ?_
  refine pf_X6_165 C hP hS (fun _ h => h) (o := 0) rfl dX6_clear_65 (fun H locs hP hS => ?_)
  refine lv_iload_n hx hb dX6_clear_68 rfl (lv_at hl 0 rfl) ?_
  exact sy_iret C hr hlocks hP hS hw dX6_clear_69
