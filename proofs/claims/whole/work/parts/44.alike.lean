/-! alike -/
def st0 (a b : Int32) (r : Nat) (mem bg : Nat → Nat) : Ab := (a, b, bg r, 1, 1, fun _ => r, fun _ => 0, mem, 0, 0)
theorem wf_st0 {a b : Int32} {r n : Nat} {mem bg : Nat → Nat} (hr : r < n) (hb : bg r < 256) (hm : ∀ p, p < 256 → mem p < 256) : WF n (st0 a b r mem bg) := ⟨hb, ⟨Nat.le_refl _, by show 1 ≤ 6; omega⟩, ⟨Nat.le_refl _, by show 1 ≤ 6; omega⟩, fun _ _ => hr, fun _ _ => by show 0 < 256; omega, hm, Or.inl rfl⟩
theorem s_begin {o m w r : Nat} {a b : Int32} {mem bg : Nat → Nat} {T : St} {post : St → Prop} (G : Og o m w) (hr : r < 10) (hB : By (m + 1) mem T) (hb : T.1 (27 + 9 * r) 3 = nI (bg r)) (hp : ∀ T', RC o m w (st0 a b r mem bg) T' → Off o w T T' → T'.1 o 11 = 0 → T'.1 o 12 = 0 → post T') : wp_X0_begin o (nI r) a b T post := by
  have hG := G
  obtain ⟨gm, gw', g⟩ := G
  unfold wp_X0_begin wp_X0_empty
  rintro T1 e1
  obtain ⟨T2, e2⟩ : ∃ T2, T2 = sv (sv T1 o 6 a) o 7 b := ⟨_, rfl⟩
  show wp_X0_enter o (nI r) 0 (sv (sv T1 o 6 a) o 7 b) (fun T3 => post T3)
  rw [← e2]
  have t2 : ∀ j, j ≠ o → T2.1 j = T.1 j := fun j h => by rw [e2, sv_ne h, sv_ne h, e1, sv_ne h, sv_ne h, sv_ne h, sv_ne h, sv_ne h, sv_ne h, sv_ne h, sv_ne h, sv_ne h, sv_ne h]
  have z : ∀ j, j = 4 ∨ j = 5 ∨ j = 11 ∨ j = 12 ∨ j = 15 → T2.1 o j = 0 := fun j hj => by
    rw [e2, sv_j (by omega), sv_j (by omega), e1]
    simp only [svat]
    rcases hj with rfl | rfl | rfl | rfl | rfl <;> rfl
  have t6 : T2.1 o 6 = a := by rw [e2, sv_j (by decide), sv_k]
  have t7 : T2.1 o 7 = b := by rw [e2, sv_k]
  have t22 : T2.2 = T.2 := by rw [e2, e1]; rfl
  have tO : Off o w T T2 := ⟨fun j h1 _ _ => t2 j h1, t22⟩
  refine s_enter (d := 0) (x := 0) (b := bg r) hG (z 4 (by omega)) (by omega) (z 5 (by omega)) (by omega) hr (by rw [t2 _ (by omega)]; exact hb) (fun T' u1 u4 u5 u8 uj uw uw1 => ?_)
  refine hp T' ⟨u4, u5, by rw [uj 6 (by decide) (by decide) (by decide)]; exact t6, by rw [uj 7 (by decide) (by decide) (by decide)]; exact t7, u8, by rw [uj 15 (by decide) (by decide) (by decide)]; exact z 15 (by omega), fun j hj => ?_, fun p hp => by rw [u1.1 (m + 1) (by omega) (by omega) (by omega), t2 _ (by omega)]; exact hB p hp, by rw [uj 11 (by decide) (by decide) (by decide), uj 12 (by decide) (by decide) (by decide), z 11 (by omega), z 12 (by omega)]; rfl⟩ (tO.tr u1) (by rw [uj 11 (by decide) (by decide) (by decide)]; exact z 11 (by omega)) (by rw [uj 12 (by decide) (by decide) (by decide)]; exact z 12 (by omega))
  have hj : j < 1 := hj
  have : j = 0 := by omega
  subst this
  rw [uw, uw1, upd_k, upd_k]
  exact ⟨rfl, rfl⟩
theorem LV.cg {L : Int32} {mem : Nat → Nat} {T T' : St} (h : LV L mem T) (e : ∀ j, j = 2 ∨ (27 ≤ j ∧ j < 117) → T'.1 j = T.1 j) : LV L mem T' := by
  intro r hr hb
  obtain ⟨c, g', me, hM, hme, hx⟩ := h r hr hb
  have o27 : T'.1 (27 + 9 * r) = T.1 (27 + 9 * r) := e _ (by omega)
  have ecu : cu T' r = cu T r := by unfold cu; rw [o27]
  have hmb := mb_in r (T.1 (27 + 9 * r) 0)
  have hcu : cu T r = mb (27 + 9 * r) (T.1 (27 + 9 * r) 0) := rfl
  have ec : ∀ j, cu T r ≤ j → j ≤ cu T r + 3 → T'.1 j = T.1 j := fun j a b => e j (by omega)
  refine ⟨c, g', me, ?_, hme, fun i hi => by rw [e 2 (by omega)]; exact hx i hi⟩
  rw [ecu]
  obtain ⟨hH, hs, hvv⟩ := hM
  refine ⟨hH.of (by rw [ec _ (by omega) (by omega)]) (fun i _ => by rw [ec _ (by omega) (by omega)]), hs, fun i hi => ?_⟩
  rw [ec _ (by omega) (by omega), ec _ (by omega) (by omega)]
  exact hvv i hi
theorem LV.of {l : Nat → Bool} {n : Nat} {mem bg : Nat → Nat} {L : Int32} {C M : St} (h : RM l l n mem bg C M) (hm : ∀ p, p < 256 → mem p < 256) (hL : ∀ i, i < 32 → bt L i = l i) : LV L mem C := by
  intro r hr hb
  rw [hL r (by omega)] at hb
  obtain ⟨⟨a1, a2, a3⟩, a4, a5, a6, a7, a8, a9, a10, a11, a12, a13, a14⟩ := h
  have hrn := a8 r hb
  obtain ⟨c, g, me, hM, m1, m2, m3, m4, m5⟩ := a10 r hrn hb
  have hg : ∀ i, i < c → g i < 256 := fun i hi => (hM.1.2.2.1 i hi).1
  have key : ∀ p, p < 256 → row M 135 r p = 1 → mem p = me p ∧ bt (C.1 2 p) r = true := fun p hp e => by
    refine ⟨?_, (a13 p hp r (by omega)).mpr ⟨hrn, hb, e⟩⟩
    have := a11 r hrn hb p hp e
    rw [(m1 p hp).1] at this
    exact ((nIe (by have := (m1 p hp).2; omega) (by have := hm p hp; omega)).mp this).symm
  refine ⟨c, g, me, hM, fun p hp => (m1 p hp).2, fun i hi => ?_⟩
  have k1 := key (g i) (hg i hi) ((m3 _ (hg i hi)).2.mpr ⟨i, hi, Or.inl rfl⟩)
  have hl : (g i + 1) % 256 < 256 := Nat.mod_lt _ (by omega)
  have k2 : hop (me (g i)) = true → _ := fun hh => key ((g i + 1) % 256) hl ((m3 _ hl).2.mpr ⟨i, hi, Or.inr ⟨hh, rfl⟩⟩)
  exact ⟨⟨k1.1, fun hh => (k2 hh).1⟩, k1.2, fun hh => (k2 hh).2⟩
theorem LV.no {mem : Nat → Nat} {T : St} : LV 0 mem T := fun r hr hb => by rw [b_0] at hb; cases hb
theorem s_copyFrom {o : Nat} {L : Int32} {mem : Nat → Nat} {T : St} {post : St → Prop} (ho : 118 ≤ o) (hB : By 5 mem T) (hp : ∀ T', (∀ j, j ≠ o → j ≠ o + 1 → T'.1 j = T.1 j) → T'.1 o 2 = L → T'.1 o 3 = L → By (o + 1) mem T' → T'.2 = T.2 → post T') : wp_X4_copyFrom o 4 L T post := by
  unfold wp_X4_copyFrom wp_X4_beginChanges
  obtain ⟨f, ef⟩ : ∃ f, f = va_cpy (T.1 (4 + 1)) (T.1 (o + 1)) 0 0 256 := ⟨_, rfl⟩
  rw [← ef]
  refine hp _ (fun j a b => by rw [sv_ne a, sv_ne a, sv_ne a, sa_ne b]) (by rw [sv_j (by decide), sv_j (by decide), sv_k]) (by rw [sv_k, sv_j (by decide), sv_k]) (fun p hp => ?_) rfl
  rw [sv_ne (by omega), sv_ne (by omega), sv_ne (by omega), sa_eq, ef, cpy256 hp]
  exact hB p hp
theorem s_sameBytes {q1 q2 : Nat} {mem : Nat → Nat} {T : St} {post : Int32 → St → Prop} (h1 : By (q1 + 1) mem T) (h2 : By (q2 + 1) mem T) (hp : post 1 T) : wp_X4_hasSameBytesAs q1 q2 T post := by
  unfold wp_X4_hasSameBytesAs
  refine LW_cnt 256 (fun k T' => T' = T) rfl ?_
  rintro k T' hk rfl kk hkk
  unfold wb_X4_hasSameBytesAs_2
  rw [n_256, leN (by omega) (by omega)]
  refine ⟨fun _ => hp, fun q => ⟨vin (by omega) (by omega), vin (by omega) (by omega), fun _ => hkk _ (by omega) rfl, fun z => absurd ?_ z⟩⟩
  rw [cl (by omega), (h1 k (by omega)).1, (h2 k (by omega)).1]
theorem Rel.same2 {i : Nat} {T T' : St} (h : Rel i T T) (e1 : ∀ j, j ≠ 130 → (j ≤ 117 ∨ 131 ≤ j) → j ≤ 145 → T'.1 j = T.1 j) (e2 : ∀ j, j ≠ 0 → T'.1 130 j = T.1 130 j) (e3 : T'.2 130 = T.2 130) : Rel (i + 1) T' T' := by
  obtain ⟨l, n, mem, bg, ns, sn, nk, fi, kp, h1, h2, h3, h4, h5, h6⟩ := h
  have e : ∀ j, j ≠ 130 → (j ≤ 117 ∨ 131 ≤ j) → j ≤ 145 → T'.1 j = T.1 j := e1
  exact ⟨l, n, mem, bg, ns, sn, nk, fi, kp, h1.cg (fun j hj => e j (by omega) (by omega) (by omega)) (by rw [e 0 (by decide) (by omega) (by omega)]) (by rw [e 0 (by decide) (by omega) (by omega)]) ⟨fun j a b => e j (by omega) (by omega) (by omega), fun j hj => e2 j (by omega)⟩, h2.cg (fun j hj => e j (by omega) (by omega) (by omega)), h3.cg (e 143 (by decide) (by omega) (by omega)) (e2 21 (by decide)), h4.cg (fun j hj => e j (by omega) (by omega) (by omega)) (by rw [e 0 (by decide) (by omega) (by omega)]), h5.cg (e 142 (by decide) (by omega) (by omega)) (e2 19 (by decide)), h6.cg (by omega) (fun j _ => by rw [e 0 (by decide) (by omega) (by omega)]) (e 117 (by decide) (by omega) (by omega)) (fun j hj => e2 j (by omega)) (e 145 (by decide) (by omega) (by omega)) e3⟩
theorem s_refusal {a1 a4 : Int32} {n : Nat} {T : St} {post : Int32 → St → Prop} (he : T.1 0 9 = nI n) (hn : n ≤ 10) (h1 : (a1 < 0 ∨ nI n ≤ a1) → post (-1) T) (h2 : ∀ r, r < n → a1 = nI r → (a4 < 1 ∨ 400 < a4) → post (-2) T) (h3 : ∀ r N, r < n → a1 = nI r → 1 ≤ N → N ≤ 400 → a4 = nI N → post 0 T) : wp_X6_refusalOfRun a1 a4 T post := by
  unfold wp_X6_refusalOfRun
  rcases r_cases a1 hn with hb | ⟨r, hr, rfl⟩
  · exact s_noR_bad he hb ⟨fun z => absurd z (by decide), fun _ => h1 hb⟩
  · refine s_noR_ok he hn hr ⟨fun _ => ⟨fun z => h2 r hr rfl (Or.inl z), fun z1 => ⟨fun z2 => ?_, fun z2 => h2 r hr rfl (Or.inr (Int32.not_le.mp z2))⟩⟩, fun z => absurd rfl z⟩
    obtain ⟨N, hN, rfl⟩ : ∃ N, N ≤ 400 ∧ a4 = nI N := rng (by omega) (fun z => z1 (Int32.lt_trans z (by decide))) z2
    rw [n_1, ltN (by omega) (by omega)] at z1
    exact h3 r N hr rfl (by omega) hN rfl
theorem op_alike {i : Nat} {a1 a2 a3 a4 : Int32} {T : St} (h : Rel i T T) : wp_X6_alike a1 a2 a3 a4 T (fun r T1 => wp_X7_alike a1 a2 a3 a4 T1 (fun r' T2 => r = r' ∧ Rel (i + 1) T2 T2)) := by
  obtain ⟨l, n, mem, bg, ns, sn, nk, fi, kp, h1, h2, h3, h4, h5, h6⟩ := id h
  obtain ⟨hRM, hDC, hL, hB, hlo⟩ := h1
  have hn := hRM.1.1
  have e09 := hRM.1.2.1
  have e2 : (sv T 130 0 0).1 130 2 = nI n := by rw [sv_j (by decide)]; exact hRM.1.2.2
  unfold wp_X6_alike
  refine s_refusal e09 hn (fun hb => ⟨fun z => absurd z (by decide), fun _ => ?_⟩) (fun r hr e hb => ⟨fun z => absurd z (by decide), fun _ => ?_⟩) (fun r N hr er hN1 hN e4 => ⟨fun _ => ?_, fun z => absurd rfl z⟩)
  · show wp_X7_alike a1 a2 a3 a4 T (fun r' T2 => -1 = r' ∧ Rel (i + 1) T2 T2)
    unfold wp_X7_alike
    exact s_isR_bad e2 hn hb ⟨fun z => absurd rfl z, fun _ => ⟨rfl, h.thr⟩⟩
  · show wp_X7_alike a1 a2 a3 a4 T (fun r' T2 => -2 = r' ∧ Rel (i + 1) T2 T2)
    subst e
    unfold wp_X7_alike
    exact s_isR_ok e2 hn hr ⟨fun _ => s_in_bad hb ⟨fun _ => ⟨rfl, h.thr⟩, fun z => absurd rfl z⟩, fun z => absurd z (by decide)⟩
  subst er; subst e4
  have hm : ∀ p, p < 256 → mem p < 256 := fun p hp => (hB p hp).2
  have hbg := hRM.2.2.2.1
  have hW : WF n (st0 a2 a3 r mem bg) := wf_st0 hr (hbg r hr).2.2 hm
  have hV := LV.of hRM hm hL
  have hbig : ∀ j, 10 ≤ j → bt (T.1 4 2) j = false := fun j hj => by
    rcases Nat.lt_or_ge j 32 with q | q
    · rw [hL j q]
      cases e : l j with
      | false => rfl
      | true => have := hRM.2.2.2.2.2.1 j e; omega
    · exact b_big q
  refine s_copyFrom (o := 121) (L := T.1 4 2) (by omega) hB (fun T4 x1 x2 x3 x4 x5 => ?_)
  refine s_begin og120 (mem := mem) (bg := bg) (by omega) x4 (by rw [x1 _ (by omega) (by omega)]; exact (hbg r hr).1) (fun T6 y1 y2 y3 y4 => ?_)
  have a6 : ∀ j, j < 120 ∨ 124 < j → T6.1 j = T.1 j := fun j hj => by rw [y2.1 j (by omega) (by omega) (by omega), x1 j (by omega) (by omega)]
  have m6 : T6.1 121 = T4.1 121 := y2.1 121 (by omega) (by omega) (by omega)
  rw [a6 0 (by omega), e09]
  refine s_follow og120 hn hN hW rfl rfl y1 (by rw [m6, x2]; exact hV.cg (fun j hj => a6 j (by omega))) (fun r' hr' => ⟨by rw [a6 _ (by omega)]; exact (hbg r' hr').1, (hbg r' hr').2.2⟩) ⟨y3, y4⟩ (by rw [m6, x3]; exact hbig) (fun U T8 uJ u1 u2 u3 u4 u5 u6 => ?_)
  have a8 : ∀ j, j < 120 ∨ 124 < j → T8.1 j = T.1 j := fun j hj => by rw [u5 j (by omega), uJ.2.2.1.1 j (by omega) (by omega) (by omega), cseqm_ne (by omega) (by omega), a6 j hj]
  have s8 : T8.2 = T.2 := by
    have : ∀ k, (cseqm 121 T6 (xwP n bg (st0 a2 a3 r mem bg)) (xwV n bg (st0 a2 a3 r mem bg)) k).2 = T6.2 := fun k => by
      induction k with
      | zero => rfl
      | succ k ih => show (cbec 121 _ _ _).2 = _; rw [cbec_2, ih]
    rw [u6, uJ.2.2.1.2, this, y2.2, x5]
  refine s_copyFrom (o := 126) (L := 0) (mem := mem) (by omega) (fun p hp => by rw [a8 5 (by omega)]; exact hB p hp) (fun T10 z1 z2 z3 z4 z5 => ?_)
  refine s_begin og125 (mem := mem) (bg := bg) (by omega) z4 (by rw [z1 _ (by omega) (by omega), a8 _ (by omega)]; exact (hbg r hr).1) (fun T12 v1 v2 v3 v4 => ?_)
  have a12 : ∀ j, j < 125 → T12.1 j = T8.1 j := fun j hj => by rw [v2.1 j (by omega) (by omega) (by omega), z1 j (by omega) (by omega)]
  have a12b : ∀ j, 129 < j → T12.1 j = T8.1 j := fun j hj => by rw [v2.1 j (by omega) (by omega) (by omega), z1 j (by omega) (by omega)]
  have m12 : T12.1 126 = T10.1 126 := v2.1 126 (by omega) (by omega) (by omega)
  rw [a12 0 (by omega), a8 0 (by omega), e09]
  refine s_follow og125 hn hN hW rfl rfl v1 (by rw [m12, z2]; exact LV.no) (fun r' hr' => ⟨by rw [a12 _ (by omega), a8 _ (by omega)]; exact (hbg r' hr').1, (hbg r' hr').2.2⟩) ⟨v3, v4⟩ (by rw [m12, z3]; intro j _; exact b_0 j) (fun V T14 vJ w1 w2 w3 w4 w5 w6 => ?_)
  have a14 : ∀ j, j < 125 ∨ 129 < j → T14.1 j = T8.1 j := fun j hj => by
    rw [w5 j (by omega), vJ.2.2.1.1 j (by omega) (by omega) (by omega), cseqm_ne (by omega) (by omega)]
    rcases hj with hj | hj
    · exact a12 j hj
    · exact a12b j hj
  have s14 : T14.2 = T.2 := by
    have : ∀ k, (cseqm 126 T12 (xwP n bg (st0 a2 a3 r mem bg)) (xwV n bg (st0 a2 a3 r mem bg)) k).2 = T12.2 := fun k => by
      induction k with
      | zero => rfl
      | succ k ih => show (cbec 126 _ _ _).2 = _; rw [cbec_2, ih]
    rw [w6, vJ.2.2.1.2, this, v2.2, z5, s8]
  have all : ∀ j, j < 120 ∨ 129 < j → T14.1 j = T.1 j := fun j hj => by rw [a14 j (by omega), a8 j (by omega)]
  obtain ⟨S, eS⟩ : ∃ S, S = its n bg (st0 a2 a3 r mem bg) N := ⟨_, rfl⟩
  obtain ⟨p4, p5, p6, p7, p8, p15, ps, pb, pc⟩ := id uJ.1
  obtain ⟨q4, q5, q6, q7, q8, q15, qs, qb, qc⟩ := id vJ.1
  rw [← eS] at p6 p7 p8 pb pc q6 q7 q8 qb qc u2 w2
  have f120 : T14.1 120 = T8.1 120 := a14 120 (by omega)
  have g15 : T14.1 120 15 = T14.1 125 15 := by rw [f120, u2, w2]
  have g6 : T14.1 120 6 = T14.1 125 6 := by rw [f120, u1 6 (by decide) (by decide) (by decide), w1 6 (by decide) (by decide) (by decide), p6, q6]
  have g7 : T14.1 120 7 = T14.1 125 7 := by rw [f120, u1 7 (by decide) (by decide) (by decide), w1 7 (by decide) (by decide) (by decide), p7, q7]
  have g8 : T14.1 120 8 = T14.1 125 8 := by rw [f120, u1 8 (by decide) (by decide) (by decide), w1 8 (by decide) (by decide) (by decide), p8, q8]
  have gc : T14.1 120 11 + T14.1 120 12 = T14.1 125 11 + T14.1 125 12 := by rw [f120, u1 11 (by decide) (by decide) (by decide), u1 12 (by decide) (by decide) (by decide), w1 11 (by decide) (by decide) (by decide), w1 12 (by decide) (by decide) (by decide), pc, qc]
  have b1 : By (121 + 1) (aM S) T14 := fun p hp => by rw [a14 _ (by omega), u5 _ (by omega)]; exact pb p hp
  have b2 : By (126 + 1) (aM S) T14 := fun p hp => by rw [w5 _ (by omega)]; exact qb p hp
  have done : wp_X7_alike (nI r) a2 a3 (nI N) T14 (fun r' T2 => 1 = r' ∧ Rel (i + 1) T2 T2) := by
    unfold wp_X7_alike
    refine s_isR_ok (by rw [sv_j (by decide), all 130 (by omega)]; exact hRM.1.2.2) hn hr ⟨fun _ => ?_, fun z => absurd z (by decide)⟩
    refine s_in_ok (lo := 1) (hi := 400) hN1 hN (by omega) ⟨fun z => absurd z (by decide), fun _ => ⟨rfl, ?_⟩⟩
    exact h.same2 (fun j a b c => by rw [sv_ne a, all j (by omega)]) (fun j hj => by rw [sv_j hj, all 130 (by omega)]) (by rw [sv2, s14])
  unfold wp_X0_cameToTheSameAs wp_X0_steps
  refine ⟨fun z => absurd g15 z, fun _ => ⟨fun z => absurd g6 z, fun _ => ⟨fun z => absurd g7 z, fun _ => ⟨fun z => absurd gc z, fun _ => ⟨fun z => absurd g8 z, fun _ => ?_⟩⟩⟩⟩⟩
  exact s_sameBytes (q1 := 121) (q2 := 126) b1 b2 ⟨fun z => absurd z (by decide), fun _ => ⟨fun z => absurd z (by decide), fun _ => done⟩⟩
