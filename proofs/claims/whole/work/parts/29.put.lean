/-! put -/
theorem s_u64 : ∀ n, n < 64 → (((nI n).toInt64.toUInt64 &&& Int64.toUInt64 63).toBitVec % 64).toNat = n := by decide +kernel
theorem s_l64 : ∀ n, n < 64 → (((nI n).toInt64 &&& 63).toBitVec.smod 64).toNat = n := by decide +kernel
theorem b64_255 : ∀ i, i < 64 → (255 : Int64).toBitVec.getLsbD i = decide (i < 8) := by decide +kernel
theorem b32_255 : ∀ i, i < 32 → bt 255 i = decide (i < 8) := by decide +kernel
theorem t32 (x : Int64) {i : Nat} (hi : i < 32) : bt x.toInt32 i = x.toBitVec.getLsbD i := by
  show (x.toBitVec.signExtend 32).getLsbD i = _
  rw [BitVec.getLsbD_signExtend]
  simp [hi, show i < 64 by omega]
theorem byt (w : Int64) {s : Nat} (hs : s ≤ 56) : ∃ b, b < 256 ∧ ((w.toUInt64 >>> ((nI s).toInt64.toUInt64 &&& Int64.toUInt64 63)).toInt64.toInt32) &&& 255 = nI b ∧ ((w >>> ((nI s).toInt64 &&& 63)) &&& 255).toInt32 = nI b := by
  obtain ⟨b, hb, e⟩ := a255x ((w.toUInt64 >>> ((nI s).toInt64.toUInt64 &&& Int64.toUInt64 63)).toInt64.toInt32)
  refine ⟨b, hb, e, ?_⟩
  rw [← e]
  refine b_ext (fun i hi => ?_)
  rw [b_and, b32_255 i hi, t32 _ hi, t32 _ hi, Int64.toBitVec_and, BitVec.getLsbD_and, b64_255 i (by omega), Int64.toBitVec_shiftRight]
  have e1 : (w.toBitVec.sshiftRight' (((nI s).toInt64 &&& 63).toBitVec.smod 64)).getLsbD i = (w.toBitVec.sshiftRight (((nI s).toInt64 &&& 63).toBitVec.smod 64).toNat).getLsbD i := rfl
  have e2 : (w.toUInt64 >>> ((nI s).toInt64.toUInt64 &&& Int64.toUInt64 63)).toInt64.toBitVec.getLsbD i = (w.toUInt64.toBitVec >>> (((nI s).toInt64.toUInt64 &&& Int64.toUInt64 63).toBitVec % 64).toNat).getLsbD i := by
    show (w.toUInt64 >>> ((nI s).toInt64.toUInt64 &&& Int64.toUInt64 63)).toBitVec.getLsbD i = _
    rw [UInt64.toBitVec_shiftRight]
    rfl
  rw [e1, e2, s_l64 s (by omega), s_u64 s (by omega), BitVec.getLsbD_sshiftRight, BitVec.getLsbD_ushiftRight]
  by_cases h8 : i < 8
  · have : s + i < 64 := by omega
    simp [h8, this, show ¬ 64 ≤ i by omega]
  · simp [h8]
theorem Qc.uniq {lm l l' : Nat → Bool} {n n' : Nat} {mem bg mem' bg' : Nat → Nat} {ch ch' : Nat} {C M M' : St} (h : Qc lm l n mem bg ch C M) (h' : Qc lm l' n' mem' bg' ch' C M') (h1 : ch < 2 ^ 31) (h2 : ch' < 2 ^ 31) : cnt (drp lm l) 10 = cnt (drp lm l') 10 ∧ ch = ch' := by
  refine ⟨cnt_congr (fun i hi => ?_), ?_⟩
  · unfold drp; rw [← h.2.2.1 i (by omega), ← h'.2.2.1 i (by omega)]
  · exact (nIe h1 h2).mp (h.2.2.2.2.2.symm.trans h'.2.2.2.2.2)
theorem op_put {i : Nat} {a1 a3 : Int32} {a2 : Int64} {T : St} (h : Rel i T T) : wp_X6_put a1 a2 a3 T (fun r T1 => wp_X7_put a1 a2 a3 T1 (fun r' T2 => r = r' ∧ Rel (i + 1) T2 T2)) := by
  unfold wp_X6_put
  rcases x_cases a1 255 (by omega) with hb | ⟨p, hp, rfl⟩
  · refine s_noPlace_bad hb ⟨fun _ => ?_, fun z => absurd z (by decide)⟩
    unfold wp_X7_put
    exact s_in_bad hb ⟨fun _ => ⟨rfl, h.thr⟩, fun z => absurd rfl z⟩
  refine s_noPlace_ok (by omega) ⟨fun z => absurd rfl z, fun _ => ?_⟩
  have bad : (a3 < 1 ∨ 8 < a3) → wp_X7_put (nI p) a2 a3 T (fun r' T2 => -2 = r' ∧ Rel (i + 1) T2 T2) := fun hb => by
    unfold wp_X7_put
    refine s_in_ok (lo := 0) (hi := 255) (by omega) hp (by omega) ⟨fun z => absurd z (by decide), fun _ => ?_⟩
    exact s_in_bad hb ⟨fun z => absurd rfl z, fun _ => ⟨rfl, h.thr⟩⟩
  refine ⟨fun z => bad (Or.inl z), fun z1 => ⟨fun z2 => ?_, fun z2 => bad (Or.inr (Int32.not_le.mp z2))⟩⟩
  obtain ⟨m, hm8, rfl⟩ : ∃ m, m ≤ 8 ∧ a3 = nI m := rng (by omega) (fun z => z1 (Int32.lt_trans z (by decide))) z2
  have hm1 : 1 ≤ m := by
    rw [n_1, ltN (by omega) (by omega)] at z1; omega
  obtain ⟨l, n, mem, bg, ns, sn, nk, fi, kp, h1, h2, h3, h4, h5, h6⟩ := h
  obtain ⟨vs, hvs⟩ : ∃ vs : Nat → Nat, ∀ k, k < m → vs k < 256 ∧ ((a2.toUInt64 >>> ((nI (8 * (m - 1 - k))).toInt64.toUInt64 &&& Int64.toUInt64 63)).toInt64.toInt32) &&& 255 = nI (vs k) ∧ ((a2 >>> ((nI (8 * (m - 1 - k))).toInt64 &&& 63)) &&& 255).toInt32 = nI (vs k) :=
    ⟨fun k => (((a2.toUInt64 >>> ((nI (8 * (m - 1 - k))).toInt64.toUInt64 &&& Int64.toUInt64 63)).toInt64.toInt32) &&& 255).toNatClampNeg, fun k hk => by
      obtain ⟨b, hb, e1, e2⟩ := byt a2 (s := 8 * (m - 1 - k)) (by omega)
      simp only [e1, e2]
      rw [cl (by omega)]
      exact ⟨hb, rfl, rfl⟩⟩
  obtain ⟨ps, eps⟩ : ∃ ps : Nat → Nat, ps = fun k => (p + k) % 256 := ⟨_, rfl⟩
  have hps : ∀ k, ps k < 256 := fun k => by rw [eps]; exact Nat.mod_lt _ (by omega)
  have esh : ∀ k, k < m → 8 * ((nI m - 1) - nI k) = nI (8 * (m - 1 - k)) := fun k hk => by rw [n_1, pk_sub (by omega), pk_sub (by omega), n_8, nI_mul]
  have epl : ∀ k, k < m → (nI p + nI k) &&& 255 = nI (ps k) := fun k hk => by rw [nI_m255 (by omega), eps]
  refine s_beginKeeping h2 h1.2.2.2.1 (fun C1 x1 x2 x3 x4 x5 x6 x7 => ?_)
  have hq0 : Qc l l n mem bg 0 C1 T := h1.qc (fun j hj => x1 j (by omega) (by omega)) x2 x4
  have hold : ∀ q, q < 256 → mem q < 256 ∧ C1.1 (9 + (fi + nk) % 9) q = nI (mem q) := fun q hq => ⟨(h1.2.2.2.1 q hq).2, x5 q hq⟩
  have hlm : ∀ j, j < 32 → bt (C1.1 4 3) j = l j := fun j hj => by rw [x3]; exact h1.2.2.1 j hj
  have hnk := h2.1
  have hB131 := h1.1.2.1
  refine LW_cnt m (fun k C => C = cseq C1 ps vs k) rfl ?_
  rintro k C hk rfl kk hkk
  unfold wb_X6_put_30
  rw [leN (by omega) (by omega)]
  refine ⟨fun q => ?_, fun q => ?_⟩
  · have : k = m := by omega
    subst this
    obtain ⟨lf, mf, cf, qf, hcf, -⟩ := seq_q hq0 (ps := ps) (vs := vs) k (fun k' hk' => ⟨hps k', (hvs k' hk').1⟩) k (Nat.le_refl _)
    refine s_endKeeping qf (by omega) (by rw [cseq_43]; exact hlm) (x6.cg (fun j hj => cseq_ne (by omega) (by omega) k)) (by rw [cseq_ne (by omega) (by omega)]; exact hold) (fun C2 c1 c2 c3 c4 c5 c6 => ?_)
    have hc : ∀ j, (19 ≤ j ∧ j ≤ 22) ∨ 117 ≤ j → C2.1 j = T.1 j := fun j hj => by rw [c4 j (by omega) (by omega) (by omega) (by omega) (by omega), cseq_ne (by omega) (by omega), x1 j (by omega) (by omega)]
    have hC0 : ∀ j, j ≠ 12 → C2.1 0 j = T.1 0 j := fun j hj => by rw [c5 j hj, cseq_ne (by decide) (by decide), x1 0 (by decide) (by omega)]
    -- the model
    unfold wp_X7_put
    refine s_in_ok (lo := 0) (hi := 255) (by omega) hp (by omega) ⟨fun z => absurd z (by decide), fun _ => ?_⟩
    refine s_in_ok (lo := 1) (hi := 8) hm1 hm8 (by omega) ⟨fun _ => ?_, fun z => absurd z (by decide)⟩
    refine s_mnote (fun f hf => ?_)
    obtain ⟨N, eN⟩ : ∃ N, N = sa (sv C2 130 0 0) 144 f := ⟨_, rfl⟩
    have nC : ∀ j, j ≠ 130 → j ≠ 144 → N.1 j = C2.1 j := fun j a b => by rw [eN, sa_ne b, sv_ne a]
    have n130 : ∀ j, j ≠ 0 → N.1 130 j = T.1 130 j := fun j hj => by rw [eN, sa_ne (by decide), sv_j hj, hc 130 (by omega)]
    have n144 : ∀ q, q < 256 → N.1 144 q = nI (mem q) := fun q hq => by rw [eN, sa_eq, hf q hq, sv_ne (by decide), hc 131 (by omega)]; exact (hB131 q hq).1
    have emN : EqM T N := ⟨fun j a b => by rw [nC j (by omega) (by omega)]; exact hc j (by omega), fun j hj => n130 j (by omega)⟩
    rw [← eN]
    refine LW_gen k (fun u v M => v.2.2 = nI u ∧ EqM (mseq n T ps vs u) M ∧ Fb N M ∧ ∃ lk mk ck, Qc l lk n mk bg ck (cseq C1 ps vs u) (mseq n T ps vs u) ∧ ck ≤ u ∧ v.1 = nI (cnt (drp l lk) 10) ∧ B01 v.2.1 ∧ (v.2.1 = 1 ↔ ck ≠ 0)) ⟨rfl, emN, Fb.rf, l, mem, 0, hq0, Nat.le_refl _, by rw [drp_self]; rfl, Or.inl rfl, fun z => absurd z (by decide), fun z => absurd rfl z⟩ ?_
    rintro u ⟨d, c, w⟩ M hu ⟨e3, em, hFb, lk, mk, ck, qk, hck, ed, hc01, hciff⟩ k13 hk13
    have e3 : w = nI u := e3
    have ed : d = nI (cnt (drp l lk) 10) := ed
    have hc01 : B01 c := hc01
    have hciff : c = 1 ↔ ck ≠ 0 := hciff
    subst e3; subst ed
    unfold wb_X7_put_43
    show (nI k ≤ nI u → _) ∧ _
    rw [leN (by omega) (by omega)]
    refine ⟨fun q2 => ?_, fun q2 => ?_⟩
    · have : u = k := by omega
      subst this
      obtain ⟨u1, u2⟩ := qf.uniq qk (by omega) (by omega)
      rw [u1]
      refine ⟨fun e0 => ⟨rfl, ?_⟩, fun e0 => ?_⟩
      · have e0 : c = 0 := e0
        have hz : cf = 0 := by
          rw [u2]
          exact Classical.byContradiction (fun z => by have := hciff.mpr z; rw [e0] at this; exact absurd this (show ¬ (0 : Int32) = 1 by decide))
        refine Rel.fin c1 em (fun j hj => by rw [hFb.1 j (by omega), nC j (by omega) (by omega)]) (c2 hz) (h3.cg (by rw [hFb.1 143 (by omega), nC 143 (by decide) (by decide)]; exact hc 143 (by omega)) (by rw [hFb.2.1 21 (by decide) (by decide), n130 21 (by decide)])) (h4.cg (fun j hj => hc j (Or.inl hj)) (hC0 10 (by decide))) (h5.cg (by rw [hFb.1 142 (by omega), nC 142 (by decide) (by decide)]; exact hc 142 (by omega)) (by rw [hFb.2.1 19 (by decide) (by decide), n130 19 (by decide)])) (h6.cg (by omega) (fun j hj => hC0 j (by omega)) (hc 117 (by omega)) (fun j hj => by rw [hFb.2.1 j (by omega) (by omega), n130 j (by omega)]) (by rw [hFb.1 145 (by omega), nC 145 (by decide) (by decide)]; exact hc 145 (by omega)) (by rw [hFb.2.2, eN, sa2, sv2, c6, cseq_2, x7]))
      · have hz : cf ≠ 0 := by rw [u2]; exact hciff.mp (hc01.ne.mp e0)
        refine s_mkeep (nk := nk) (kp := kp) (old := mem) hnk (h3.cg (by rw [hFb.1 143 (by omega), nC 143 (by decide) (by decide)]; exact hc 143 (by omega)) (by rw [hFb.2.1 21 (by decide) (by decide), n130 21 (by decide)])) (fun q hq => by rw [hFb.1 144 (by omega)]; exact n144 q hq) (fun M3 m1 m2 m3 m4 => ⟨rfl, ?_⟩)
        refine Rel.fin c1 (em.tr ⟨fun j a b => m1 j (by omega) (by omega), fun j hj => m2 j (by omega)⟩) (fun j hj => by rw [m1 j (by omega) (by omega), hFb.1 j (by omega), nC j (by omega) (by omega)]) (c3 hz) m3 (h4.cg (fun j hj => hc j (Or.inl hj)) (hC0 10 (by decide))) (h5.cg (by rw [m1 142 (by decide) (by decide), hFb.1 142 (by omega), nC 142 (by decide) (by decide)]; exact hc 142 (by omega)) (by rw [m2 19 (by decide), hFb.2.1 19 (by decide) (by decide), n130 19 (by decide)])) (h6.cg (by omega) (fun j hj => hC0 j (by omega)) (hc 117 (by omega)) (fun j hj => by rw [m2 j (by omega), hFb.2.1 j (by omega) (by omega), n130 j (by omega)]) (by rw [m1 145 (by decide) (by decide), hFb.1 145 (by omega), nC 145 (by decide) (by decide)]; exact hc 145 (by omega)) (by rw [m4, hFb.2.2, eN, sa2, sv2, c6, cseq_2, x7]))
    · have hu' : u < k := by omega
      rw [epl u hu', esh u hu', (hvs u hu').2.2]
      obtain ⟨l', m', c', q', f1, f2, f3⟩ := qc_mbx qk (hps u) (hvs u hu').1
      have hsub : ∀ j, lk j = true → l j = true := qk.1.2.2.2.2.1
      refine s_bec qk em (hps u) (hvs u hu').1 (fun hm em' => ?_) (fun hm M' em' hFb' => ?_)
      · obtain ⟨rfl, rfl, rfl⟩ := f1 hm
        have go : ∀ c'', B01 c'' → (c'' = 1 ↔ c' ≠ 0) → wj_X7_put_96 k13 (nI (cnt (drp l l') 10)) (nI u) (-1) c'' M (fun r' T2 => nI (cnt (drp l lf) 10) = r' ∧ Rel (i + 1) T2 T2) := fun c'' b1 b2 => ⟨fun _ => hk13 _ _ hu' ⟨nI_1 u, em', hFb, l', m', c', q', by omega, Int32.add_zero _, b1, b2⟩, fun z => absurd (by decide) z⟩
        exact ⟨fun z => go 1 (Or.inr rfl) ⟨fun _ => hciff.mp (hc01.ne.mp z), fun _ => rfl⟩, fun z => ⟨fun _ => go 0 (Or.inl rfl) ⟨fun w => absurd w (by decide), fun w => by have := hciff.mpr w; have z : c = 0 := z; rw [z] at this; exact absurd this (show ¬ (0 : Int32) = 1 by decide)⟩, fun w => absurd (by decide) w⟩⟩
      · obtain ⟨g1, g2, g3⟩ := f2 hm
        have hcl : cnt (dq (mseq n T ps vs u) (ps u)) n ≤ n := cnt_le _ _
        have hn10 := h1.1.1.1
        have hadd : nI (cnt (drp l lk) 10) + nI (cnt (dq (mseq n T ps vs u) (ps u)) n) = nI (cnt (drp l l') 10) := by rw [g3, nI_add, drp_add hsub f3]
        have go : wj_X7_put_96 k13 (nI (cnt (drp l lk) 10)) (nI u) (nI (cnt (dq (mseq n T ps vs u) (ps u)) n)) 1 M' (fun r' T2 => nI (cnt (drp l lf) 10) = r' ∧ Rel (i + 1) T2 T2) := by
          refine ⟨fun z => hk13 _ _ hu' ⟨nI_1 u, em', hFb.tr hFb', l', m', c', q', by omega, ?_, Or.inr rfl, fun _ => by omega, fun _ => rfl⟩, fun z => hk13 _ _ hu' ⟨nI_1 u, em', hFb.tr hFb', l', m', c', q', by omega, hadd, Or.inr rfl, fun _ => by omega, fun _ => rfl⟩⟩
          rw [n_0, leN (by omega) (by omega)] at z
          rw [← hadd, show cnt (dq (mseq n T ps vs u) (ps u)) n = 0 by omega]
          rfl
        exact ⟨fun _ => go, fun _ => ⟨fun w => absurd w (nI_pos (by omega)), fun _ => go⟩⟩
  · have hk' : k < m := by omega
    rw [esh k hk', (hvs k hk').2.1]
    exact s_become (by omega) (epl k hk') (hps k) (hkk _ hk' rfl)
