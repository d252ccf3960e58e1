/-! run, both -/
theorem xc (k : Nat) (h : k < 2 ^ 31) : (OfNat.ofNat k : Int32).toNatClampNeg = k := nI_clamp h
theorem op_run {i : Nat} {a1 a2 a3 a4 : Int32} {T : St} (h : Rel i T T) : wp_X6_run a1 a2 a3 a4 T (fun r T1 => wp_X7_run a1 a2 a3 a4 T1 (fun r' T2 => r = r' ∧ Rel (i + 1) T2 T2)) := by
  obtain ⟨l, n, mem, bg, ns, sn, nk, fi, kp, h1, h2, h3, h4, h5, h6⟩ := id h
  obtain ⟨hRM, hDC, hL, hB, hlo⟩ := id h1
  have hn := hRM.1.1
  have e09 := hRM.1.2.1
  have e2 : (sv T 130 0 0).1 130 2 = nI n := by rw [sv_j (by decide)]; exact hRM.1.2.2
  unfold wp_X6_run
  refine s_refusal e09 hn (fun hb => ⟨fun z => absurd z (by decide), fun _ => ?_⟩) (fun r hr e hb => ⟨fun z => absurd z (by decide), fun _ => ?_⟩) (fun r N hr er hN1 hN e4 => ⟨fun _ => ?_, fun z => absurd rfl z⟩)
  · show wp_X7_run a1 a2 a3 a4 T (fun r' T2 => -1 = r' ∧ Rel (i + 1) T2 T2)
    unfold wp_X7_run
    exact s_isR_bad e2 hn hb ⟨fun z => absurd rfl z, fun _ => ⟨rfl, h.thr⟩⟩
  · show wp_X7_run a1 a2 a3 a4 T (fun r' T2 => -2 = r' ∧ Rel (i + 1) T2 T2)
    subst e
    unfold wp_X7_run
    exact s_isR_ok e2 hn hr ⟨fun _ => s_in_bad hb ⟨fun z => absurd rfl z, fun _ => ⟨rfl, h.thr⟩⟩, fun z => absurd z (by decide)⟩
  subst er; subst e4
  have hm : ∀ p, p < 256 → mem p < 256 := fun p hp => (hB p hp).2
  have hbg := hRM.2.2.2.1
  have hb : ∀ r, r < n → bg r < 256 := fun r hr => (hbg r hr).2.2
  have hW : WF n (st0 a2 a3 r mem bg) := wf_st0 hr (hb r hr) hm
  have hbig : ∀ j, 10 ≤ j → bt (T.1 4 2) j = false := fun j hj => by
    rcases Nat.lt_or_ge j 32 with q | q
    · rw [hL j q]
      cases e : l j with
      | false => rfl
      | true => have := hRM.2.2.2.2.2.1 j e; omega
    · exact b_big q
  have hnk := h2.1
  refine s_beginKeeping h2 hB (fun C1 x1 x2 x3 x4 x5 x6 x7 => ?_)
  have hq0 : Qc l l n mem bg 0 C1 T := h1.qc (fun j hj => x1 j (by omega) (by omega)) x2 x4
  refine s_begin og117 (mem := mem) (bg := bg) (by omega) (fun p hp => by rw [x1 5 (by omega) (by omega)]; exact hB p hp) (by rw [x1 _ (by omega) (by omega)]; exact (hbg r hr).1) (fun C2 y1 y2 y3 y4 => ?_)
  have c2 : ∀ j, j < 117 ∨ 119 < j → C2.1 j = C1.1 j := fun j hj => y2.1 j (by omega) (by omega) (by omega)
  have hq2 : Qc l l n mem bg 0 C2 T := hq0.cls (fun j hj => c2 j (by omega))
  have c209 : C2.1 0 9 = nI n := hq2.1.1.2.1
  rw [c209]
  have hV : LV (C2.1 4 2) mem C2 := LV.of hq2.1 hm hq2.2.2.1
  refine s_follow og117 hn hN hW rfl rfl y1 hV (fun r' hr' => ⟨(hq2.1.2.2.2.1 r' hr').1, hb r' hr'⟩) ⟨y3, y4⟩ (by rw [c2 4 (by omega), x3]; exact hbig) (fun U T8 uJ u1 u2 u3 u4 u5 u6 => ?_)
  obtain ⟨s, es⟩ : ∃ s, s = st0 a2 a3 r mem bg := ⟨_, rfl⟩
  rw [← es] at hW uJ u2
  obtain ⟨lN', cN, qN, hcN⟩ := run_q (s := s) hW hb (by rw [es]; exact hq2) N
  obtain ⟨j1, j2, j3, j4, j5, j6⟩ := uJ
  have t8 : ∀ j, j ≠ 117 → j ≠ 118 → j ≠ 119 → T8.1 j = (cseqm 4 C2 (xwP n bg s) (xwV n bg s) N).1 j := fun j a b c => by rw [u5 j a]; exact j3.1 j a b c
  have t8c : ∀ j, j ≠ 4 → j ≠ 5 → j < 117 ∨ 119 < j → T8.1 j = C1.1 j := fun j a b c => by rw [t8 j (by omega) (by omega) (by omega), cseqm_ne (by omega) (by omega), c2 j (by omega)]
  have q8 : Qc l lN' n (aM (its n bg s N)) bg cN T8 (mseq n T (xwP n bg s) (xwV n bg s) N) := qN.cls (fun j hj => t8 j (by omega) (by omega) (by omega))
  have s8 : T8.2 = T.2 := by
    have : ∀ k, (cseqm 4 C2 (xwP n bg s) (xwV n bg s) k).2 = C2.2 := fun k => by
      induction k with
      | zero => rfl
      | succ k ih => show (cbec 4 _ _ _).2 = _; rw [cbec_2, ih]
    rw [u6, j3.2, this, y2.2, x7]
  have m3 : T8.1 4 3 = T.1 4 2 := by rw [t8 4 (by omega) (by omega) (by omega), cseqm_3, c2 4 (by omega), x3]
  have hold : ∀ q, q < 256 → mem q < 256 ∧ T8.1 (9 + (fi + nk) % 9) q = nI (mem q) := fun q hq => ⟨hm q hq, by rw [t8c _ (by omega) (by omega) (by omega)]; exact x5 q hq⟩
  refine s_endKeeping q8 (by omega) (by rw [m3]; exact hL) (x6.cg (fun j hj => t8c j (by omega) (by omega) (by omega))) hold (fun C3 k1 k2 k3 k4 k5 k6 => ?_)
  rintro T12 e12
  have c117 : C3.1 117 = T8.1 117 := k4 117 (by omega) (by omega) (by omega) (by omega) (by omega)
  have t12 : ∀ j, j ≠ 0 → T12.1 j = C3.1 j := fun j hj => by rw [e12, sv_ne hj, sv_ne hj]
  have t120 : ∀ j, j ≠ 14 → j ≠ 15 → T12.1 0 j = C3.1 0 j := fun j a b => by rw [e12, sv_j b, sv_j a]
  have c30 : ∀ j, j ≠ 12 → C3.1 0 j = T.1 0 j := fun j hj => by rw [k5 j hj, t8c 0 (by omega) (by omega) (by omega), x1 0 (by omega) (by omega)]
  have c3a : ∀ j, (19 ≤ j ∧ j ≤ 22) ∨ 119 < j → C3.1 j = T.1 j := fun j hj => by rw [k4 j (by omega) (by omega) (by omega) (by omega) (by omega), t8c j (by omega) (by omega) (by omega), x1 j (by omega) (by omega)]
  have t117 : T12.1 117 = T8.1 117 := by rw [t12 117 (by decide), c117]
  -- the run's fields
  obtain ⟨S, eS⟩ : ∃ S, S = its n bg s N := ⟨_, rfl⟩
  obtain ⟨B, eB⟩ : ∃ B, B = mbs 4 n bg s C2 N := ⟨_, rfl⟩
  rw [← eS] at j1 j4 j6 qN q8 k1 u2
  rw [← eB] at j4 j5 j6
  obtain ⟨p4, p5, p6, p7, p8, p15, ps, pb, pc⟩ := id j1
  have f : ∀ j, j ≠ 13 → j ≠ 14 → j ≠ 15 → T12.1 117 j = U.1 117 j := fun j a b c => by rw [t117, u1 j a b c]
  have g14 : T12.1 0 14 = T.1 0 14 + nI B := by rw [e12, sv_j (by decide), sv_k, c30 14 (by decide), c117, u1 11 (by decide) (by decide) (by decide), j5]
  have g15 : T12.1 0 15 = T.1 0 15 + nI (aC S - B) := by rw [e12, sv_k, sv_j (by decide), sv_ne (by decide), c30 15 (by decide), c117, u1 12 (by decide) (by decide) (by decide), j6]
  have ans : T12.1 117 15 = (if aF S = 0 then -4 else aF S) := by rw [t117]; exact u2
  have um3 : U.1 4 3 = T.1 4 2 := by rw [← u5 4 (by omega)]; exact m3
  have f13 : T12.1 117 13 = nI (cnt (drp l lN') 10) := by
    rw [t117, u3]
    refine congrArg nI (cnt_congr (fun j hj => ?_))
    rw [b_and, b_not _ (by omega), um3, hL j (by omega), ← u5 4 (by omega), q8.2.2.1 j (by omega)]
    rfl
  have f14 : T12.1 117 14 = nI cN := by rw [t117, u4, ← u5 4 (by omega)]; exact q8.2.2.2.2.2
  show wp_X7_run (nI r) a2 a3 (nI N) T12 (fun r' T2 => T12.1 117 15 = r' ∧ Rel (i + 1) T2 T2)
  rw [ans]
  have em : EqM T (sv T12 130 0 0) := ⟨fun j a b => by rw [sv_ne (by omega), t12 j (by omega), c3a j (by omega)], fun j hj => by rw [sv_j (by omega), t12 130 (by decide), c3a 130 (by omega)]⟩
  have em12 : ∀ j, 119 < j → T12.1 j = T.1 j := fun j hj => by rw [t12 j (by omega), c3a j (by omega)]
  have s12 : T12.2 = T.2 := by rw [e12, sv2, sv2, k6, s8]
  refine s_mrun hr hN1 hN (by rw [← es]; exact hW) hb hq2 em (fun ff W v hff hM hv => ?_)
  rw [← es, ← eS] at hv
  rw [← es] at hM
  obtain ⟨m1, m2, m3', m4, lk, ck, qk, hck, m5, m6⟩ := hM
  rw [← eS] at m2 qk
  rw [← eB] at m4
  obtain ⟨un1, un2⟩ := qk.uniq qN (by omega) (by omega)
  rw [un1] at m5
  rw [un2] at m6
  obtain ⟨⟨r30, r31, r32, r33, r34, r39, r35⟩, -⟩ := m2
  have wc : ∀ j, j < 130 → W.1 j = T12.1 j := fun j hj => by rw [m3'.1 j (by omega), sa_ne (by omega), sv_ne (by omega)]
  have w14 : ∀ j, 142 ≤ j → j ≤ 148 → j ≠ 144 → W.1 j = T.1 j := fun j a b c => by rw [m3'.1 j (by omega), sa_ne c, sv_ne (by omega), em12 j (by omega)]
  have w144 : ∀ p, p < 256 → W.1 144 p = nI (mem p) := fun p hp => by rw [m3'.1 144 (by omega), sa_eq]; exact hff p hp
  have w130 : ∀ j, j ≠ 0 → j ≠ 13 → j ≠ 15 → (j < 30 ∨ 39 < j) → W.1 130 j = T.1 130 j := fun j a b c d => by rw [m3'.2.1 j b c d, sa_ne (by decide), sv_j a, em12 130 (by omega)]
  have w2 : W.2 = T.2 := by rw [m3'.2.2, sa2, sv2, s12]
  -- the end, behind keep
  have fin : ∀ (V : St) (nk' fi' : Nat) (kp' : Nat → Nat → Nat), (∀ j, j ≠ 130 → j ≠ 143 → V.1 j = W.1 j) → (∀ j, j ≠ 21 → V.1 130 j = W.1 130 j) → V.2 = W.2 → KM nk' kp' V → KC nk' fi' kp' C3 → wj_X7_run_119 v V (fun r' T2 => (if aF S = 0 then -4 else aF S) = r' ∧ Rel (i + 1) T2 T2) := by
    intro V nk' fi' kp' v1 v2 v3 v4 v5
    unfold wj_X7_run_119
    rintro T24 e24
    have a24 : T24.1 = V.1 := by rw [e24]; rfl
    have l17 : T24.2 130 17 = T.2 130 17 + lN B := by
      rw [e24, sl_j (by decide), sl_k, v3, w2, v2 36 (by decide), m4, nI_l (by omega)]
    have l18 : T24.2 130 18 = T.2 130 18 + lN (aC S - B) := by
      rw [e24, sl_k, sl_j (by decide)]
      show V.2 130 18 + (V.1 130 35 - V.1 130 36).toInt64 = _
      rw [v3, w2, v2 36 (by decide), v2 35 (by decide), m4, r35, pk_sub (by omega), nI_l (by omega)]
    refine ⟨vin (i := 0) (by omega) (by omega), vin (i := 1) (by omega) (by omega), ?_⟩
    rintro T27 e27
    refine ⟨vin (i := 2) (by omega) (by omega), vin (i := 3) (by omega) (by omega), ?_⟩
    rintro T30 e30
    refine ⟨vin (i := 4) (by omega) (by omega), vin (i := 5) (by omega) (by omega), ?_⟩
    rintro T33 e33
    refine ⟨vin (i := 6) (by omega) (by omega), vin (i := 7) (by omega) (by omega), ?_⟩
    rintro T36 e36
    refine ⟨vin (i := 8) (by omega) (by omega), ?_⟩
    obtain ⟨F, eF⟩ : ∃ F, F = sv T36 145 ((8 : Int32).toNatClampNeg) (T36.1 130 38) := ⟨_, rfl⟩
    rw [← eF]
    have d0 : (0 : Int32).toNatClampNeg = 0 := by decide
    have d1 : (1 : Int32).toNatClampNeg = 1 := by decide
    have d2 : (2 : Int32).toNatClampNeg = 2 := by decide
    have d3 : (3 : Int32).toNatClampNeg = 3 := by decide
    have d4 : (4 : Int32).toNatClampNeg = 4 := by decide
    have d5 : (5 : Int32).toNatClampNeg = 5 := by decide
    have d6 : (6 : Int32).toNatClampNeg = 6 := by decide
    have d7 : (7 : Int32).toNatClampNeg = 7 := by decide
    have d8 : (8 : Int32).toNatClampNeg = 8 := by decide
    rw [d0, d1, sv_ne (by decide), a24] at e27
    rw [d2, d3, sv_ne (by decide)] at e30
    rw [d4, d5, sv_ne (by decide)] at e33
    rw [d6, d7, sv_ne (by decide)] at e36
    rw [d8] at eF
    have o27 : ∀ j, j ≠ 145 → T27.1 j = V.1 j := fun j hj => by rw [e27, sv_ne hj, sv_ne hj, a24]
    have o30 : ∀ j, j ≠ 145 → T30.1 j = V.1 j := fun j hj => by rw [e30, sv_ne hj, sv_ne hj, o27 j hj]
    have o33 : ∀ j, j ≠ 145 → T33.1 j = V.1 j := fun j hj => by rw [e33, sv_ne hj, sv_ne hj, o30 j hj]
    have o36 : ∀ j, j ≠ 145 → T36.1 j = V.1 j := fun j hj => by rw [e36, sv_ne hj, sv_ne hj, o33 j hj]
    have oF : ∀ j, j ≠ 145 → F.1 j = V.1 j := fun j hj => by rw [eF, sv_ne hj, o36 j hj]
    rw [o27 130 (by decide)] at e30
    rw [o30 130 (by decide)] at e33
    rw [o33 130 (by decide)] at e36
    rw [o36 130 (by decide)] at eF
    have oF2 : F.2 = T24.2 := by rw [eF, e36, e33, e30, e27]; rfl
    have fc : ∀ j, j < 130 → F.1 j = T12.1 j := fun j hj => by rw [oF j (by omega), v1 j (by omega) (by omega), wc j hj]
    have f130 : ∀ j, j ≠ 21 → F.1 130 j = W.1 130 j := fun j hj => by rw [oF 130 (by decide), v2 j hj]
    have rel : Rel (i + 1) F F := by
      have emF : EqM (mseq n T (xwP n bg s) (xwV n bg s) N) F := ⟨fun j a b => by rw [oF j (by omega), v1 j (by omega) (by omega)]; exact m1.1 j a b, fun j hj => by rw [f130 j (by omega)]; exact m1.2 j hj⟩
      have kc : Core lN' n (aM S) bg T12 (mseq n T (xwP n bg s) (xwV n bg s) N) := k1.cg (fun j hj => t12 j (by omega)) (t120 9 (by decide) (by decide)) (t120 12 (by decide) (by decide)) EqM.rf
      refine Rel.fin kc emF fc (v5.cg (fun j hj => t12 j (by omega))) (v4.cg (oF 143 (by decide)) (by rw [oF 130 (by decide)])) (h4.cg (fun j hj => by rw [t12 j (by omega), c3a j (by omega)]) (by rw [t120 10 (by decide) (by decide), c30 10 (by decide)])) (h5.cg (by rw [oF 142 (by decide), v1 142 (by decide) (by decide), w14 142 (by omega) (by omega) (by omega)]) (by rw [f130 19 (by decide), w130 19 (by omega) (by omega) (by omega) (by omega)])) ?_
      obtain ⟨z1, z2, -, x, y, z4, z5, z6, z7, z8⟩ := h6
      refine ⟨by rw [t120 11 (by decide) (by decide), c30 11 (by decide), f130 14 (by decide), w130 14 (by omega) (by omega) (by omega) (by omega)]; exact z1, by rw [t120 13 (by decide) (by decide), c30 13 (by decide), f130 16 (by decide), w130 16 (by omega) (by omega) (by omega) (by omega)]; exact z2, ⟨?_, ?_, ?_, ?_, ?_, ?_, ?_, ?_, ?_⟩, x + B, y + (aC S - B), by omega, by rw [g14, z5, nI_add], by rw [g15, z6, nI_add], by rw [oF2, l17, z7, lN_add], by rw [oF2, l18, z8, lN_add]⟩
      · rw [f 6 (by decide) (by decide) (by decide), p6, eF, e36, e33, e30, e27]; simp only [svat]; exact (v2 30 (by decide)).trans r30
      · rw [f 7 (by decide) (by decide) (by decide), p7, eF, e36, e33, e30, e27]; simp only [svat]; exact (v2 31 (by decide)).trans r31
      · rw [f 11 (by decide) (by decide) (by decide), f 12 (by decide) (by decide) (by decide), pc, eF, e36, e33, e30, e27]; simp only [svat]; exact (v2 35 (by decide)).trans r35
      · rw [f 11 (by decide) (by decide) (by decide), j5, eF, e36, e33, e30, e27]; simp only [svat]; exact (v2 36 (by decide)).trans m4
      · rw [f 12 (by decide) (by decide) (by decide), j6, eF, e36, e33, e30, e27]; simp only [svat]
        show V.1 130 35 - V.1 130 36 = _
        rw [v2 35 (by decide), v2 36 (by decide), r35, m4, pk_sub (by omega)]
      · rw [f13, eF, e36, e33, e30, e27]; simp only [svat]; exact (v2 37 (by decide)).trans m5
      · rw [f 8 (by decide) (by decide) (by decide), p8, eF, e36, e33, e30, e27]; simp only [svat]; exact (v2 32 (by decide)).trans r32
      · rw [f 5 (by decide) (by decide) (by decide), p5, eF, e36, e33, e30, e27]; simp only [svat]; exact (v2 39 (by decide)).trans r39
      · rw [f14, eF, e36, e33, e30, e27]; simp only [svat]; exact (v2 38 (by decide)).trans m6
    exact ⟨fun z => ⟨(hv.1 z).symm, rel⟩, fun z => ⟨(hv.2 z).symm, rel⟩⟩
  rw [m6, n_0, leN (by omega) (by omega)]
  refine ⟨fun z => ?_, fun z => ?_⟩
  · refine fin W nk fi kp (fun _ _ _ => rfl) (fun _ _ => rfl) rfl (h3.cg (w14 143 (by omega) (by omega) (by omega)) (w130 21 (by omega) (by omega) (by omega) (by omega))) (k2 (by omega))
  · refine s_mkeep (nk := nk) (kp := kp) (old := mem) hnk (h3.cg (w14 143 (by omega) (by omega) (by omega)) (w130 21 (by omega) (by omega) (by omega) (by omega))) w144 (fun V v1 v2 v3 v4 => fin V (nkN nk) (fiN nk fi) (kpN nk kp mem) v1 v2 v4 v3 (k3 (by omega)))
