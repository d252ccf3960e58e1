/-! SelfChange.read, head, share -/
def wpx_X6_read (a1 : Int32) (T : St) (post : Int32 → St → Prop) (px : String → St → Prop) : Prop := wp_X6_isNoPlace a1 T (fun r T1 => (¬ r = 0 → px eAI T1) ∧ (r = 0 → vp_in a1 256 ∧ post (T1.1 5 a1.toNatClampNeg) T1))
def wpx_X6_share (T : St) (post : Int32 → St → Prop) (px : String → St → Prop) : Prop := (T.1 0 15 = 0 → px eAR T) ∧ (¬ T.1 0 15 = 0 → post (T.1 0 14 / T.1 0 15) T)
def wpx_X6_head (a1 a2 : Int32) (T : St) (post : Int32 → St → Prop) (px : String → St → Prop) : Prop := wp_X6_isNoRoutine a1 T (fun r T1 => (¬ r = 0 → post (-1) T1) ∧ (r = 0 → wp_X4_hasLive 4 a1 T1 (fun r2 T2 => (r2 = 0 → px eNP T2) ∧ (¬ r2 = 0 → vp_in a1 10 ∧ (a2 < 0 → px eAI T2) ∧ (¬ a2 < 0 → (a2 < T2.1 (mb (27 + 9 * a1.toNatClampNeg) (T2.1 (27 + 9 * a1.toNatClampNeg) 0)) 3 → vp_in a2 24 ∧ post (T2.1 (mb (27 + 9 * a1.toNatClampNeg) (T2.1 (27 + 9 * a1.toNatClampNeg) 0) + 1) a2.toNatClampNeg) T2) ∧ (¬ a2 < T2.1 (mb (27 + 9 * a1.toNatClampNeg) (T2.1 (27 + 9 * a1.toNatClampNeg) 0)) 3 → px eAI T2))))))
theorem x_X6_read (l : Launch) (htr : l.stackTraces = false) (G : Gm) (hi : Inj G) (sa : Nat × Nat × Nat × Nat) (a1 : Int32) (T : St) (post : Int32 → St → Prop) (px : String → St → Prop) (hw : wpx_X6_read a1 T post px) : Mx l yX6_read cX6_read 2 7 6 100 G sa [.ref (G.2.2 0), .int a1] T post px := by
  refine sz_head hi (by decide) (Nat.le_of_ble_eq_true rfl) (lv := [(0, .ref (G.2.2 0)), (1, .int a1)]) rfl ?_
  intro p e s m below meth c C hr hlocks hP hS hX hZ ht ls hl
  have C : Cx p s m _ c cX6_read 2 RX6 G := C
  obtain ⟨hx, hb, hml, hown, hg, hK, hN, -⟩ := id C
  unfold wpx_X6_read at hw
  refine lv_iload_n hx hb dX6_read_0 rfl (lv_at hl 1 rfl) ?_
  refine sy_goi (sy_runS C hP (m_X6_isNoPlace l G hi _ _ _ hw) mw_X6_isNoPlace w_275 w_274 (rest := []) rfl hl.1 rfl (Nat.le_of_ble_eq_true rfl) ⟨Nat.le_of_ble_eq_true rfl, Nat.le_of_ble_eq_true rfl⟩ dX6_read_1 ⟨Nat.zero_le _, Nat.zero_le _⟩) hS (fun _ h => h) (fun r2 T1 H locs hw hP hS => ?_)
  refine lv_if_eq (tgt := 17) hx hb dX6_read_4 (by decide) (fun hc => ?_) (fun hc => ?_)
  · obtain ⟨hn, hw⟩ := hw.2 hc
    refine lv_aload_n hx hb dX6_read_17 rfl (lv_at hl 0 rfl) ?_
    refine gf_X6_21 C hP (o := 0) rfl dX6_read_18 ?_
    refine gf_X6_88 C hP (o := 4) rfl dX6_read_21 ?_
    refine lv_iload_n hx hb dX6_read_24 rfl (lv_at hl 1 rfl) ?_
    refine sy_iald C hP (o := 5) (n := 256) rfl rfl hn dX6_read_25 ?_
    exact sz_iret C hr hlocks hP hS hw dX6_read_26
  · exact sz_ai C htr hlocks hX hZ hX.2.2.2.1 ht hP hS (hw.1 hc) hl.1 dX6_read_7 dX6_read_10 dX6_read_11 dX6_read_13 dX6_read_16 (Nat.le_of_ble_eq_true rfl) (Nat.le_of_ble_eq_true rfl) (Nat.le_of_ble_eq_true rfl) (Nat.le_of_ble_eq_true rfl) (Nat.le_refl _)
theorem x_X6_share (l : Launch) (htr : l.stackTraces = false) (G : Gm) (hi : Inj G) (sa : Nat × Nat × Nat × Nat) (T : St) (post : Int32 → St → Prop) (px : String → St → Prop) (hw : wpx_X6_share T post px) : Mx l yX6_share cX6_share 1 7 6 100 G sa [.ref (G.2.2 0)] T post px := by
  refine sz_head hi (by decide) (Nat.le_of_ble_eq_true rfl) (lv := [(0, .ref (G.2.2 0))]) rfl ?_
  intro p e s m below meth c C hr hlocks hP hS hX hZ ht ls hl
  have C : Cx p s m _ c cX6_share 1 RX6 G := C
  obtain ⟨hx, hb, hml, hown, hg, hK, hN, -⟩ := id C
  unfold wpx_X6_share at hw
  refine lv_aload_n hx hb dX6_share_0 rfl (lv_at hl 0 rfl) ?_
  refine gf_X6_165 C hP (o := 0) rfl dX6_share_1 ?_
  refine lv_if_ne (tgt := 17) hx hb dX6_share_4 (by decide) (fun hc => ?_) (fun hc => ?_)
  · have hw := hw.2 hc
    refine lv_aload_n hx hb dX6_share_17 rfl (lv_at hl 0 rfl) ?_
    refine gf_X6_159 C hP (o := 0) rfl dX6_share_18 ?_
    refine lv_aload_n hx hb dX6_share_21 rfl (lv_at hl 0 rfl) ?_
    refine gf_X6_165 C hP (o := 0) rfl dX6_share_22 ?_
    refine lv_idiv hx hb dX6_share_25 hc ?_
    exact sz_iret C hr hlocks hP hS hw dX6_share_26
  · exact sz_ar C htr hlocks hX hZ hX.2.2.2.2.2.2 ht hP hS (hw.1 hc) hl.1 dX6_share_7 dX6_share_10 dX6_share_11 dX6_share_13 dX6_share_16 (Nat.le_of_ble_eq_true rfl) (Nat.le_of_ble_eq_true rfl) (Nat.le_of_ble_eq_true rfl) (Nat.le_of_ble_eq_true rfl) (Nat.le_refl _)
theorem x_X6_head (l : Launch) (htr : l.stackTraces = false) (G : Gm) (hi : Inj G) (sa : Nat × Nat × Nat × Nat) (a1 a2 : Int32) (T : St) (post : Int32 → St → Prop) (px : String → St → Prop) (hw : wpx_X6_head a1 a2 T post px) : Mx l yX6_head cX6_head 4 12 8 10600 G sa [.ref (G.2.2 0), .int a1, .int a2] T post px := by
  refine sz_head hi (by decide) (Nat.le_of_ble_eq_true rfl) (lv := [(0, .ref (G.2.2 0)), (1, .int a1), (2, .int a2)]) rfl ?_
  intro p e s m below meth c C hr hlocks hP hS hX hZ ht ls hl
  have C : Cx p s m _ c cX6_head 4 RX6 G := C
  obtain ⟨hx, hb, hml, hown, hg, hK, hN, -⟩ := id C
  unfold wpx_X6_head at hw
  refine lv_aload_n hx hb dX6_head_0 rfl (lv_at hl 0 rfl) ?_
  refine lv_iload_n hx hb dX6_head_1 rfl (lv_at hl 1 rfl) ?_
  refine sy_goi (sy_runV C hP rfl rfl (m_X6_isNoRoutine l G hi _ _ _ hw) mw_X6_isNoRoutine w_400 ws_10 w_398 (rest := []) rfl hl.1 rfl (Nat.le_of_ble_eq_true rfl) ⟨Nat.le_of_ble_eq_true rfl, Nat.le_of_ble_eq_true rfl⟩ dX6_head_2 ⟨Nat.zero_le _, Nat.zero_le _⟩) hS (fun _ h => h) (fun r2 T1 H locs hw hP hS => ?_)
  refine lv_if_eq (tgt := 10) hx hb dX6_head_5 (by decide) (fun hc => ?_) (fun hc => ?_)
  · have hw := hw.2 hc
    refine lv_aload_n hx hb dX6_head_10 rfl (lv_at hl 0 rfl) ?_
    refine gf_X6_21 C hP (o := 0) rfl dX6_head_11 ?_
    refine lv_iload_n hx hb dX6_head_14 rfl (lv_at hl 1 rfl) ?_
    refine sy_goi (sy_runV C hP rfl rfl (m_X4_hasLive l G hi _ _ rfl _ _ hw) mw_X4_hasLive w_347 w_348 w_346 (rest := []) rfl hl.1 rfl (Nat.le_of_ble_eq_true rfl) ⟨Nat.le_of_ble_eq_true rfl, Nat.le_of_ble_eq_true rfl⟩ dX6_head_15 ⟨Nat.zero_le _, Nat.zero_le _⟩) hS (fun _ h => h) (fun r3 T2 H locs hw hP hS => ?_)
    refine lv_if_ne (tgt := 31) hx hb dX6_head_18 (by decide) (fun hc2 => ?_) (fun hc2 => ?_)
    · obtain ⟨hn, hw⟩ := hw.2 hc2
      refine lv_aload_n hx hb dX6_head_31 rfl (lv_at hl 0 rfl) ?_
      refine gf_X6_27 C hP (o := 0) rfl dX6_head_32 ?_
      refine lv_iload_n hx hb dX6_head_35 rfl (lv_at hl 1 rfl) ?_
      refine sy_aldR C hP hn dX6_head_36 ?_
      refine gf_X6_107 C hP (o := 27 + 9 * a1.toNatClampNeg) (ko_ro hn) dX6_head_37 ?_
      have hko := ko_mb (ko_ro hn) (T2.1 (27 + 9 * a1.toNatClampNeg) 0)
      refine lv_astore_n (lv' := [(3, .ref (G.2.2 (mb (27 + 9 * a1.toNatClampNeg) (T2.1 (27 + 9 * a1.toNatClampNeg) 0)))), (0, .ref (G.2.2 0)), (1, .int a1), (2, .int a2)]) hx hb dX6_head_40 rfl hl (by decide) rfl (fun ls hl => ?_)
      refine lv_iload_n hx hb dX6_head_41 rfl (lv_at hl 3 rfl) ?_
      have thr : ((wpx_X6_head a1 a2 T post px) → True) → px eAI T2 → W p l e { frames := 12, cells := 1, slots := 8, locals := 10600 } s m _ below meth c H locs 0 0 (vx_MQ below (va_Qi post (Sy G) (SA G)) (XQ G px) _ s 1 8 (SA G)) (F0 m 53 ls []) := fun _ hpx => sz_ai C htr hlocks hX hZ hX.2.2.2.2.2.1 ht hP hS hpx hl.1 dX6_head_53 dX6_head_56 dX6_head_57 dX6_head_59 dX6_head_62 (Nat.le_of_ble_eq_true rfl) (Nat.le_of_ble_eq_true rfl) (Nat.le_of_ble_eq_true rfl) (Nat.le_of_ble_eq_true rfl) (Nat.le_of_ble_eq_true rfl)
      refine lv_if_lt (tgt := 53) hx hb dX6_head_42 (by decide) (fun hc3 => thr (fun _ => trivial) (hw.1 hc3)) (fun hc3 => ?_)
      have hw := hw.2 hc3
      refine lv_iload_n hx hb dX6_head_45 rfl (lv_at hl 3 rfl) ?_
      refine lv_aload_n hx hb dX6_head_46 rfl (lv_at hl 0 rfl) ?_
      refine gf_X6_126 C hP hko dX6_head_47 ?_
      refine lv_icmp_lt (tgt := 63) hx hb dX6_head_50 (by decide) (fun hc4 => ?_) (fun hc4 => thr (fun _ => trivial) (hw.2 hc4))
      obtain ⟨hn2, hw⟩ := hw.1 hc4
      refine lv_aload_n hx hb dX6_head_63 rfl (lv_at hl 0 rfl) ?_
      refine gf_X6_146 C hP hko dX6_head_64 ?_
      refine lv_iload_n hx hb dX6_head_67 rfl (lv_at hl 3 rfl) ?_
      refine sy_iald C hP (n := 24) (ko_mem hko).1.1 (ko_mem hko).1.2 hn2 dX6_head_68 ?_
      exact sz_iret C hr hlocks hP hS hw dX6_head_69
    · have hw := hw.1 hc2
      exact sz_np C htr hlocks hX hZ hX.2.2.2.2.1 ht hP hS hw hl.1 dX6_head_21 dX6_head_24 dX6_head_25 dX6_head_27 dX6_head_30 (Nat.le_of_ble_eq_true rfl) (Nat.le_of_ble_eq_true rfl) (Nat.le_of_ble_eq_true rfl) (Nat.le_of_ble_eq_true rfl) (Nat.le_refl _)
  · have hw := hw.1 hc
    refine lv_iconst (v := -1) hx hb dX6_head_8 (by decide) ?_
    exact sz_iret C hr hlocks hP hS hw dX6_head_9
