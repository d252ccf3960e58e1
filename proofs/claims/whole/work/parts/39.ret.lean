/-! restore, undo -/
def ix (k : Nat) : Nat := k
theorem s_returnTo {l : Nat → Bool} {n q : Nat} {mem bg vs : Nat → Nat} {C M : St} {post : Int32 → St → Prop} (h : Core l n mem bg C M) (hq : 9 ≤ q ∧ q ≤ 22) (hv : ∀ p, p < 256 → vs p < 256 ∧ C.1 q p = nI (vs p))
    (hp : ∀ (C1 : St) (lf : Nat → Bool) (mf : Nat → Nat) (cf : Nat) (l' : Nat → Bool) (C' : St), Qc l l n mem bg 0 C1 M → Qc l lf n mf bg cf (cseq C1 ix vs 256) (mseq n M ix vs 256) → cf ≤ 256 → Core l' n mf bg C' (gsq bkD bkG (mseq n M ix vs 256) n).1 → (∀ r, r < n → (mseq n M ix vs 256).1 138 r ≠ 0 → ∀ p, p < 256 → B01 (row (mseq n M ix vs 256) 139 r p) ∧ B01 (row (mseq n M ix vs 256) 140 r p)) → (mseq n M ix vs 256).1 130 2 = nI n →
      (∀ j, j ≠ 0 → j ≠ 2 → j ≠ 3 → j ≠ 4 → j ≠ 5 → (j < 27 ∨ 117 ≤ j) → C'.1 j = C.1 j) → (∀ j, j ≠ 12 → j ≠ 13 → C'.1 0 j = C.1 0 j) → C'.1 0 13 = C.1 0 13 + nI (gsq bkD bkG (mseq n M ix vs 256) n).2 → C'.2 = C.2 → post (nI (cnt (drp l lf) 10) + 100 * nI (gsq bkD bkG (mseq n M ix vs 256) n).2) C') : wp_X6_returnTo q C post := by
  unfold wp_X6_returnTo wp_X4_beginChanges
  obtain ⟨C1, e1⟩ : ∃ C1, C1 = sv (sv C 4 5 0) 4 3 ((sv C 4 5 0).1 4 2) := ⟨_, rfl⟩
  rw [← e1]
  have c1 : ∀ j, j ≠ 4 → C1.1 j = C.1 j := fun j hj => by rw [e1, sv_ne hj, sv_ne hj]
  have hq0 : Qc l l n mem bg 0 C1 M := h.qc (fun j hj => c1 j (by omega)) (fun j a b => by rw [e1, sv_j a, sv_j b]) (by rw [e1, sv_j (by decide), sv_k])
  have hlm : ∀ j, j < 32 → bt (C1.1 4 3) j = l j := fun j hj => by rw [e1, sv_k, sv_j (by decide)]; exact h.2.2.1 j hj
  have hpv : ∀ k, k < 256 → ix k < 256 ∧ vs k < 256 := fun k hk => ⟨hk, (hv k hk).1⟩
  refine LW_cnt 256 (fun k T => T = cseq C1 ix vs k) rfl ?_
  rintro k T hk rfl kk hkk
  unfold wb_X6_returnTo_9
  rw [n_256, leN (by omega) (by omega)]
  refine ⟨fun w => ?_, fun w => ⟨vin (by omega) (by omega), ?_⟩⟩
  · have : k = 256 := by omega
    subst this
    obtain ⟨lf, mf, cf, qf, hcf, -⟩ := seq_q hq0 (ps := ix) (vs := vs) 256 hpv 256 (Nat.le_refl _)
    obtain ⟨M1, eM⟩ : ∃ M1, M1 = mseq n M ix vs 256 := ⟨_, rfl⟩
    rw [← eM] at qf hp
    obtain ⟨D, eD⟩ : ∃ D, D = cseq C1 ix vs 256 := ⟨_, rfl⟩
    have d : ∀ j, j ≠ 4 → j ≠ 5 → D.1 j = C.1 j := fun j a b => by rw [eD, cseq_ne a b, c1 j a]
    have d43 : D.1 4 3 = C1.1 4 3 := by rw [eD, cseq_43]
    have d2 : D.2 = C.2 := by rw [eD, cseq_2, e1]; rfl
    have hpD := hp C1 lf mf cf
    rw [← eD] at qf hpD ⊢
    obtain ⟨hR, hD, hL, hB, hlo, hc⟩ := id qf
    refine s_lay hR hD (by rw [d43]; exact hlm) hL (fun C2 r1 r2 hF => ?_)
    obtain ⟨C3, e3⟩ : ∃ C3, C3 = sv C2 0 12 (C2.1 0 12 + nI (cnt (drp l lf) 10)) := ⟨_, rfl⟩
    rw [← e3] at r1 r2 ⊢
    have c3 : ∀ j, j ≠ 0 → C3.1 j = C2.1 j := fun j hj => by rw [e3, sv_ne hj]
    have c30 : ∀ j, j ≠ 12 → C3.1 0 j = C2.1 0 j := fun j hj => by rw [e3, sv_j hj]
    have c34 : C3.1 4 = D.1 4 := by rw [c3 4 (by decide)]; exact hF.1 4 (by decide) (by decide) (by omega)
    have c35 : C3.1 5 = D.1 5 := by rw [c3 5 (by decide)]; exact hF.1 5 (by decide) (by decide) (by omega)
    refine s_bring (n := n) (mem := mf) (bg := bg) (M := M1) ⟨lf, r1, fun i hi => by rw [c34]; exact hL i hi, fun p hp => by rw [c35]; exact hB p hp, fun _ _ _ _ _ => rfl, fun _ _ => rfl, rfl⟩ (fun C4 hG => ?_)
    obtain ⟨l', a', c', d', f1, f2, f3⟩ := hG
    obtain ⟨cn, ecn⟩ : ∃ cn, cn = (gsq bkD bkG M1 n).2 := ⟨_, rfl⟩
    rw [← ecn] at hpD ⊢
    obtain ⟨C5, e5⟩ : ∃ C5, C5 = sv C4 0 13 (C4.1 0 13 + nI cn) := ⟨_, rfl⟩
    rw [← e5]
    have c5 : ∀ j, j ≠ 0 → C5.1 j = C4.1 j := fun j hj => by rw [e5, sv_ne hj]
    have c50 : ∀ j, j ≠ 13 → C5.1 0 j = C4.1 0 j := fun j hj => by rw [e5, sv_j hj]
    have f10 : C4.1 0 = C3.1 0 := f1 0 (by omega) (by omega) (by omega) (by omega)
    have g130 : (gsq bkD bkG M1 n).1.1 130 = M1.1 130 := gsq_ne (fun r N => bkG_ne (by decide) (by decide) (by decide) (by decide) (by decide)) n
    refine hpD l' C5 hq0 qf (by omega) ⟨a'.cls (by rw [c50 9 (by decide)]) (fun j hj => c5 j (by omega)), ?_, fun i hi => by rw [c5 4 (by decide)]; exact c' i hi, fun p hp => by rw [c5 5 (by decide)]; exact d' p hp, ?_⟩ (fun r hr hz p hp => ?_) hR.1.2.2 (fun j j0 j2 j3 j4 j5 jr => ?_) (fun j j1 j2 => ?_) ?_ ?_
    · unfold DC at r2 ⊢
      rw [drp_self] at r2 ⊢
      rw [g130, c50 12 (by decide), f10]; exact r2
    · rw [g130, c5 4 (by decide), f2 4 (by decide), c34]; exact hlo
    · obtain ⟨x1, -, x3⟩ := r1.2.2.2.2.2.2.2.2.2.1 r hr
      obtain ⟨c, g, me, -, -, m2, m3, -⟩ := (x3 (by unfold drp; simp)).2.2 (x1.ne.mp hz)
      exact ⟨(m2 p hp).1, (m3 p hp).1⟩
    · rw [c5 j j0, f1 j j2 j3 j4 jr, c3 j j0, hF.1 j j2 j3 jr, d j j4 j5]
    · rw [c50 j j2, f10, c30 j j1, hF.1 0 (by decide) (by decide) (by omega), d 0 (by decide) (by decide)]
    · rw [e5, sv_k, f10, c30 13 (by decide), hF.1 0 (by decide) (by decide) (by omega), d 0 (by decide) (by decide)]
    · rw [e5, sv2, f3, e3, sv2, hF.2, d2]
  · rw [cl (by omega), cseq_ne (by omega) (by omega), c1 q (by omega), (hv k (by omega)).2]
    exact s_become (p := ix k) (by omega) (show nI k &&& 255 = nI k by rw [a255 (by omega), Nat.mod_eq_of_lt (by omega)]) (show k < 256 by omega) (hkk _ (by omega) rfl)
theorem s_returned {l lf : Nat → Bool} {n cf : Nat} {mem bg vs mf : Nat → Nat} {C1 M T : St} {post : Int32 → St → Prop} (hq0 : Qc l l n mem bg 0 C1 M) (qf : Qc l lf n mf bg cf (cseq C1 ix vs 256) (mseq n M ix vs 256)) (hcf : cf ≤ 256) (em : EqM M T) (hv : ∀ p, p < 256 → T.1 144 p = nI (vs p) ∧ vs p < 256)
    (hb : ∀ r, r < n → (mseq n M ix vs 256).1 138 r ≠ 0 → ∀ p, p < 256 → B01 (row (mseq n M ix vs 256) 139 r p) ∧ B01 (row (mseq n M ix vs 256) 140 r p)) (h2 : (mseq n M ix vs 256).1 130 2 = nI n)
    (hp : ∀ T', EqM (gsq bkD bkG (mseq n M ix vs 256) n).1 T' → (∀ j, j < 130 ∨ (142 ≤ j ∧ j ≤ 145) → T'.1 j = T.1 j) → (∀ j, j ≠ 13 → j ≠ 15 → T'.1 130 j = T.1 130 j) → T'.2 = T.2 → post (nI (cnt (drp l lf) 10) + 100 * nI (gsq bkD bkG (mseq n M ix vs 256) n).2) (sv T' 130 16 (T'.1 130 16 + nI (gsq bkD bkG (mseq n M ix vs 256) n).2))) : wp_X7_returned T post := by
  have hn := hq0.1.1.1
  unfold wp_X7_returned
  refine LW_acc 256 (fun u x U => EqM (mseq n M ix vs u) U ∧ Fb T U ∧ ∃ lu mu cu, Qc l lu n mu bg cu (cseq C1 ix vs u) (mseq n M ix vs u) ∧ cu ≤ u ∧ x = nI (cnt (drp l lu) 10)) ⟨em, Fb.rf, l, mem, 0, hq0, Nat.le_refl _, by rw [drp_self]; rfl⟩ ?_
  rintro u x U hu ⟨hE, hF, lu, mu, cu, qu, hcu, rfl⟩ k hk
  unfold wb_X7_returned_4
  show (256 ≤ nI u → _) ∧ _
  rw [n_256, leN (by omega) (by omega)]
  refine ⟨fun w => ?_, fun w => ⟨vin (by omega) (by omega), ?_⟩⟩
  · have : u = 256 := by omega
    subst this
    show LW (fun kl (vl : Int32 × Int32) Tl => wb_X7_returned_45 (nI (cnt (drp l lu) 10)) kl vl.1 vl.2 Tl post) (0, 0) U
    rw [(qu.uniq qf (by omega) (by omega)).1]
    refine s_mbring hn h2 hb hE (fun T' a b => hp T' a (fun j hj => by rw [b.1 j hj, hF.1 j (by omega)]) (fun j j1 j2 => by rw [b.2.1, hF.2.1 j j1 j2]) (b.2.2.trans hF.2.2))
  · have hu' : u < 256 := by omega
    show wp_X7_becomes (nI u) (U.1 144 (nI u).toNatClampNeg) U _
    rw [cl (by omega), hF.1 144 (by omega), (hv u hu').1]
    obtain ⟨l', m', c', q', f1, f2, f3⟩ := qc_mbx qu (p := ix u) (v := vs u) hu' (hv u hu').2
    have hsub : ∀ j, lu j = true → l j = true := qu.1.2.2.2.2.1
    refine s_bec qu hE (p := ix u) (v := vs u) hu' (hv u hu').2 (fun hm em' => ?_) (fun hm M' em' hFb' => ?_)
    · obtain ⟨rfl, rfl, rfl⟩ := f1 hm
      exact ⟨fun _ => hk _ _ hu' ⟨em', hF, l', m', c', q', by omega, Int32.add_zero _⟩, fun z => absurd (by decide) z⟩
    · obtain ⟨g1, g2, g3⟩ := f2 hm
      have hcl : cnt (dq (mseq n M ix vs u) (ix u)) n ≤ n := cnt_le _ _
      have hadd : nI (cnt (drp l lu) 10) + nI (cnt (dq (mseq n M ix vs u) (ix u)) n) = nI (cnt (drp l l') 10) := by rw [g3, nI_add, drp_add hsub f3]
      refine ⟨fun z => hk _ _ hu' ⟨em', hF.tr hFb', l', m', c', q', by omega, ?_⟩, fun z => hk _ _ hu' ⟨em', hF.tr hFb', l', m', c', q', by omega, hadd⟩⟩
      rw [n_0, leN (by omega) (by omega)] at z
      rw [← hadd, show cnt (dq (mseq n M ix vs u) (ix u)) n = 0 by omega]
      rfl
theorem s_inm_bad {x : Int32} {n : Nat} {T : St} {post : Int32 → St → Prop} (hn : n ≤ 10) (h : x < 0 ∨ nI n ≤ x) (hp : post 0 T) : wp_X7_in x 0 (nI n - 1) T post := by
  refine s_in_bad (h.imp id (fun w => ?_)) hp
  rw [Int32.lt_iff_toInt_lt]
  rw [Int32.le_iff_toInt_le, nI_toInt (by omega)] at w
  rw [n_1, pk_sub_toInt (by omega) (by omega)]
  omega
theorem s_inm_ok {r n : Nat} {T : St} {post : Int32 → St → Prop} (hn : n ≤ 10) (h : r < n) (hp : post 1 T) : wp_X7_in (nI r) 0 (nI n - 1) T post := by
  rw [n_1, pk_sub (by omega), n_0]
  exact s_in_ok (by omega) (by omega) (by omega) hp
theorem op_restore {i : Nat} {a1 : Int32} {T : St} (h : Rel i T T) : wp_X6_restore a1 T (fun r T1 => wp_X7_restore a1 T1 (fun r' T2 => r = r' ∧ Rel (i + 1) T2 T2)) := by
  obtain ⟨l, n, mem, bg, ns, sn, nk, fi, kp, h1, h2, h3, h4, h5, h6⟩ := id h
  have hns := h4.1
  unfold wp_X6_restore
  rw [h4.2.1]
  have bad : (a1 < 0 ∨ nI ns ≤ a1) → wp_X7_restore a1 T (fun r' T2 => -1 = r' ∧ Rel (i + 1) T2 T2) := fun hb => by
    unfold wp_X7_restore
    rw [sv_j (by decide), h5.1]
    exact s_inm_bad (by omega) hb ⟨fun z => absurd rfl z, fun _ => ⟨rfl, h.thr⟩⟩
  refine ⟨fun z => bad (Or.inl z), fun z => ⟨fun z2 => ?_, fun z2 => bad (Or.inr (Int32.not_lt.mp z2))⟩⟩
  obtain ⟨s, hs, rfl⟩ := nI_of z
  rw [ltN (by omega) (by omega)] at z2
  refine ⟨vin (by omega) (by omega), ?_⟩
  rw [cl (by omega)]
  refine s_returnTo (vs := sn s) h1 (by omega) (fun p hp => h4.2.2 s z2 p hp) (fun C1 lf mf cf l' C' q0 qf hcf core hb h130 e1 e2 e3 e4 => ?_)
  show wp_X7_restore (nI s) C' (fun r' T2 => _ = r' ∧ Rel (i + 1) T2 T2)
  unfold wp_X7_restore
  have m130 : ∀ j, j ≠ 0 → (sv C' 130 0 0).1 130 j = T.1 130 j := fun j hj => by rw [sv_j hj, e1 130 (by omega) (by omega) (by omega) (by omega) (by omega) (by omega)]
  have mne : ∀ j, j ≠ 130 → 117 ≤ j → (sv C' 130 0 0).1 j = T.1 j := fun j hj h => by rw [sv_ne hj, e1 j (by omega) (by omega) (by omega) (by omega) (by omega) (by omega)]
  rw [m130 19 (by decide), h5.1]
  refine s_inm_ok (by omega) z2 ⟨fun _ => ?_, fun w => absurd w (by decide)⟩
  obtain ⟨N0, e0⟩ : ∃ N0, N0 = sv C' 130 0 0 := ⟨_, rfl⟩
  have n0c : ∀ j, j ≠ 130 → N0.1 j = C'.1 j := fun j hj => by rw [e0, sv_ne hj]
  have n02 : N0.2 = T.2 := by rw [e0, sv2, e4]
  rw [← e0] at m130 mne ⊢
  refine LW_cnt 256 (fun k U => ∃ f, U = sa N0 144 f ∧ ∀ p, p < k → f p = nI (sn s p)) ⟨N0.1 144, by rw [sa_self], fun p hp => by omega⟩ ?_
  rintro k U hk ⟨f, rfl, hf⟩ kk hkk
  unfold wb_X7_restore_23
  rw [n_256, leN (by omega) (by omega)]
  refine ⟨fun w => ?_, fun w => ?_⟩
  · have em : EqM T (sa N0 144 f) := ⟨fun j a b => by rw [sa_ne (by omega)]; exact mne j (by omega) (by omega), fun j hj => by rw [sa_ne (by decide)]; exact m130 j (by omega)⟩
    refine s_returned q0 qf hcf em (fun p hp => ⟨by rw [sa_eq]; exact hf p (by omega), (h4.2.2 s z2 p hp).1⟩) hb h130 (fun T' E F1 F2 F3 => ⟨rfl, ?_⟩)
    obtain ⟨cn, ecn⟩ : ∃ cn, cn = (gsq bkD bkG (mseq n T ix (sn s) 256) n).2 := ⟨_, rfl⟩
    rw [← ecn] at e3 ⊢
    obtain ⟨F, eF⟩ : ∃ F, F = sv T' 130 16 (T'.1 130 16 + nI cn) := ⟨_, rfl⟩
    rw [← eF]
    have g : ∀ j, j ≠ 130 → F.1 j = T'.1 j := fun j hj => by rw [eF, sv_ne hj]
    have g130 : ∀ j, j ≠ 16 → F.1 130 j = T'.1 130 j := fun j hj => by rw [eF, sv_j hj]
    have t130 : ∀ j, j ≠ 0 → j ≠ 13 → j ≠ 15 → T'.1 130 j = T.1 130 j := fun j a b c => by rw [F2 j b c, sa_ne (by decide)]; exact m130 j a
    have t14 : ∀ j, (142 ≤ j ∧ j ≤ 145) → j ≠ 144 → F.1 j = T.1 j := fun j hj h => by rw [g j (by omega), F1 j (by omega), sa_ne h]; exact mne j (by omega) (by omega)
    refine Rel.fin core ⟨fun j j1 j2 => by rw [g j (by omega)]; exact E.1 j j1 j2, fun j hj => by rw [g130 j (by omega)]; exact E.2 j hj⟩ (fun j hj => by rw [g j (by omega), F1 j (by omega), sa_ne (by omega), n0c j (by omega)]) (h2.cg (fun j hj => e1 j (by omega) (by omega) (by omega) (by omega) (by omega) (by omega))) (h3.cg (t14 143 (by omega) (by decide)) (by rw [g130 21 (by decide), t130 21 (by decide) (by decide) (by decide)])) (h4.cg (fun j hj => e1 j (by omega) (by omega) (by omega) (by omega) (by omega) (by omega)) (e2 10 (by decide) (by decide))) (h5.cg (t14 142 (by omega) (by decide)) (by rw [g130 19 (by decide), t130 19 (by decide) (by decide) (by decide)])) ?_
    obtain ⟨q1, q2, q3, x, y, q4, q5, q6, q7, q8⟩ := h6
    have e117 : C'.1 117 = T.1 117 := e1 117 (by omega) (by omega) (by omega) (by omega) (by omega) (by omega)
    have fs : F.2 = T.2 := by rw [eF, sv2, F3, sa2, n02]
    refine ⟨by rw [e2 11 (by decide) (by decide), g130 14 (by decide), t130 14 (by decide) (by decide) (by decide)]; exact q1, ?_, by rw [e117, t14 145 (by omega) (by decide)]; exact q3, x, y, by omega, by rw [e2 14 (by decide) (by decide)]; exact q5, by rw [e2 15 (by decide) (by decide)]; exact q6, by rw [fs]; exact q7, by rw [fs]; exact q8⟩
    rw [e3, eF, sv_k, t130 16 (by decide) (by decide) (by decide), q2]
  · have e142 : N0.1 142 (256 * s + k) = nI (sn s k) := by rw [mne 142 (by decide) (by omega)]; exact h5.2 s z2 k (by omega)
    rw [nI_mul, nI_add, cl (i := 256 * s + k) (by omega), cl (i := k) (by omega), sa_ne (by decide), e142, sv_sa]
    refine ⟨vin (by omega) (by omega), vin (by omega) (by omega), hkk _ (by omega) ⟨_, rfl, fun p hp => ?_⟩⟩
    by_cases e : p = k
    · subst e; exact upd_k
    · rw [upd_j e]; exact hf p (by omega)
theorem op_undo {i : Nat} {T : St} (h : Rel i T T) : wp_X6_undo T (fun r T1 => wp_X7_undo T1 (fun r' T2 => r = r' ∧ Rel (i + 1) T2 T2)) := by
  obtain ⟨l, n, mem, bg, ns, sn, nk, fi, kp, h1, h2, h3, h4, h5, h6⟩ := id h
  obtain ⟨k1, k2, k3, k4, k5⟩ := h2
  unfold wp_X6_undo
  rw [k3, n_0, nIe (by omega) (by omega)]
  refine ⟨fun z => ?_, fun z => ?_⟩
  · unfold wp_X2_takeLatest
    rw [k3, n_0, leN (by omega) (by omega), n_1, pk_sub (by omega)]
    refine ⟨fun w => by omega, fun w => ?_⟩
    obtain ⟨C0, e0⟩ : ∃ C0, C0 = sv T 7 2 (nI (nk - 1)) := ⟨_, rfl⟩
    have c0 : ∀ j, j ≠ 7 → C0.1 j = T.1 j := fun j hj => by rw [e0, sv_ne hj]
    have c71 : C0.1 7 1 = nI fi := by rw [e0, sv_j (by decide)]; exact k4
    have c72 : C0.1 7 2 = nI (nk - 1) := by rw [e0, sv_k]
    rw [← e0, c71, c72, nI_add, rem9 (by omega)]
    have hm9 : (fi + (nk - 1)) % 9 < 9 := Nat.mod_lt _ (by omega)
    refine ⟨vin hm9 (by omega), ko_row (Or.inl ⟨rfl, rfl⟩) (vin hm9 (by omega)), ?_⟩
    rw [cl (by omega)]
    have hc0 : Core l n mem bg C0 T := h1.cg (fun j hj => c0 j (by omega)) (by rw [c0 0 (by decide)]) (by rw [c0 0 (by decide)]) EqM.rf
    refine s_returnTo (vs := kp (nk - 1)) hc0 (by omega) (fun p hp => by rw [c0 _ (by omega)]; exact k5 (nk - 1) (by omega) p hp) (fun C1 lf mf cf l' C' q0 qf hcf core hb h130 e1 e2 e3 e4 => ?_)
    have cc : ∀ j, j ≠ 0 → j ≠ 2 → j ≠ 3 → j ≠ 4 → j ≠ 5 → j ≠ 7 → (j < 27 ∨ 117 ≤ j) → C'.1 j = T.1 j := fun j a b c d e f g => by rw [e1 j a b c d e g, c0 j f]
    show wp_X7_undo C' (fun r' T2 => _ = r' ∧ Rel (i + 1) T2 T2)
    unfold wp_X7_undo
    have m130 : ∀ j, j ≠ 0 → (sv C' 130 0 0).1 130 j = T.1 130 j := fun j hj => by rw [sv_j hj, cc 130 (by omega) (by omega) (by omega) (by omega) (by omega) (by omega) (by omega)]
    have mne : ∀ j, j ≠ 130 → 117 ≤ j → (sv C' 130 0 0).1 j = T.1 j := fun j hj h => by rw [sv_ne hj, cc j (by omega) (by omega) (by omega) (by omega) (by omega) (by omega) (by omega)]
    rw [m130 21 (by decide), h3.1, n_0, nIe (by omega) (by omega)]
    refine ⟨fun _ => ?_, fun u => absurd u z⟩
    rw [n_1, pk_sub (by omega)]
    obtain ⟨N0, e0'⟩ : ∃ N0, N0 = sv (sv C' 130 0 (nI 0)) 130 21 (nI (nk - 1)) := ⟨_, rfl⟩
    have n0c : ∀ j, j ≠ 130 → N0.1 j = C'.1 j := fun j hj => by rw [e0', sv_ne hj, sv_ne hj]
    have n02 : N0.2 = T.2 := by rw [e0', sv2, sv2, e4, e0]; rfl
    have n130 : ∀ j, j ≠ 0 → j ≠ 21 → N0.1 130 j = T.1 130 j := fun j a b => by rw [e0', sv_j b, sv_j a, cc 130 (by omega) (by omega) (by omega) (by omega) (by omega) (by omega) (by omega)]
    have n21 : N0.1 130 21 = nI (nk - 1) := by rw [e0', sv_k]
    have nne : ∀ j, j ≠ 130 → 117 ≤ j → N0.1 j = T.1 j := fun j hj h => by rw [n0c j hj, cc j (by omega) (by omega) (by omega) (by omega) (by omega) (by omega) (by omega)]
    rw [← e0']
    refine LW_cnt 256 (fun k U => ∃ f, U = sa N0 144 f ∧ ∀ p, p < k → f p = nI (kp (nk - 1) p)) ⟨N0.1 144, by rw [sa_self], fun p hp => by omega⟩ ?_
    rintro k U hk ⟨f, rfl, hf⟩ kk hkk
    unfold wb_X7_undo_27
    rw [n_256, leN (by omega) (by omega)]
    refine ⟨fun w => ?_, fun w => ?_⟩
    · have em : EqM T (sa N0 144 f) := ⟨fun j a b => by rw [sa_ne (by omega)]; exact nne j (by omega) (by omega), fun j hj => by rw [sa_ne (by decide)]; exact n130 j (by omega) (by omega)⟩
      refine s_returned q0 qf hcf em (fun p hp => ⟨by rw [sa_eq]; exact hf p (by omega), (k5 (nk - 1) (by omega) p hp).1⟩) hb h130 (fun T' E F1 F2 F3 => ⟨rfl, ?_⟩)
      obtain ⟨cn, ecn⟩ : ∃ cn, cn = (gsq bkD bkG (mseq n T ix (kp (nk - 1)) 256) n).2 := ⟨_, rfl⟩
      rw [← ecn] at e3 ⊢
      obtain ⟨F, eF⟩ : ∃ F, F = sv T' 130 16 (T'.1 130 16 + nI cn) := ⟨_, rfl⟩
      rw [← eF]
      have g : ∀ j, j ≠ 130 → F.1 j = T'.1 j := fun j hj => by rw [eF, sv_ne hj]
      have g130 : ∀ j, j ≠ 16 → F.1 130 j = T'.1 130 j := fun j hj => by rw [eF, sv_j hj]
      have t130 : ∀ j, j ≠ 0 → j ≠ 13 → j ≠ 15 → j ≠ 21 → T'.1 130 j = T.1 130 j := fun j a b c d => by rw [F2 j b c, sa_ne (by decide)]; exact n130 j a d
      have t21 : T'.1 130 21 = nI (nk - 1) := by rw [F2 21 (by decide) (by decide), sa_ne (by decide)]; exact n21
      have t14 : ∀ j, (142 ≤ j ∧ j ≤ 145) → j ≠ 144 → F.1 j = T.1 j := fun j hj h => by rw [g j (by omega), F1 j (by omega), sa_ne h]; exact nne j (by omega) (by omega)
      have c7 : C'.1 7 = C0.1 7 := e1 7 (by omega) (by omega) (by omega) (by omega) (by omega) (by omega)
      refine Rel.fin (nk := nk - 1) (fi := fi) (kp := kp) core ⟨fun j j1 j2 => by rw [g j (by omega)]; exact E.1 j j1 j2, fun j hj => by rw [g130 j (by omega)]; exact E.2 j hj⟩ (fun j hj => by rw [g j (by omega), F1 j (by omega), sa_ne (by omega), n0c j (by omega)]) ⟨by omega, k2, by rw [c7]; exact c72, by rw [c7]; exact c71, fun k hk p hp => by rw [cc _ (by omega) (by omega) (by omega) (by omega) (by omega) (by omega) (by omega)]; exact k5 k (by omega) p hp⟩ ⟨by rw [g130 21 (by decide)]; exact t21, fun k hk p hp => by rw [t14 143 (by omega) (by decide)]; exact h3.2 k (by omega) p hp⟩ (h4.cg (fun j hj => cc j (by omega) (by omega) (by omega) (by omega) (by omega) (by omega) (by omega)) (by rw [e2 10 (by decide) (by decide), c0 0 (by decide)])) (h5.cg (t14 142 (by omega) (by decide)) (by rw [g130 19 (by decide), t130 19 (by decide) (by decide) (by decide) (by decide)])) ?_
      obtain ⟨q1, q2, q3, x, y, q4, q5, q6, q7, q8⟩ := h6
      have e117 : C'.1 117 = T.1 117 := cc 117 (by omega) (by omega) (by omega) (by omega) (by omega) (by omega) (by omega)
      have fs : F.2 = T.2 := by rw [eF, sv2, F3, sa2, n02]
      refine ⟨by rw [e2 11 (by decide) (by decide), c0 0 (by decide), g130 14 (by decide), t130 14 (by decide) (by decide) (by decide) (by decide)]; exact q1, ?_, by rw [e117, t14 145 (by omega) (by decide)]; exact q3, x, y, by omega, by rw [e2 14 (by decide) (by decide), c0 0 (by decide)]; exact q5, by rw [e2 15 (by decide) (by decide), c0 0 (by decide)]; exact q6, by rw [fs]; exact q7, by rw [fs]; exact q8⟩
      rw [e3, eF, sv_k, t130 16 (by decide) (by decide) (by decide) (by decide), c0 0 (by decide), q2]
    · have e143 : N0.1 143 (256 * (nk - 1) + k) = nI (kp (nk - 1) k) := by rw [nne 143 (by decide) (by omega)]; exact h3.2 (nk - 1) (by omega) k (by omega)
      rw [sa_ne (by decide), n21, nI_mul, nI_add, cl (i := 256 * (nk - 1) + k) (by omega), cl (i := k) (by omega), sa_ne (by decide), e143, sv_sa]
      refine ⟨vin (by omega) (by omega), vin (by omega) (by omega), hkk _ (by omega) ⟨_, rfl, fun p hp => ?_⟩⟩
      by_cases e : p = k
      · subst e; exact upd_k
      · rw [upd_j e]; exact hf p (by omega)
  · show wp_X7_undo T (fun r' T2 => -3 = r' ∧ Rel (i + 1) T2 T2)
    unfold wp_X7_undo
    rw [sv_j (by decide), h3.1, n_0, nIe (by omega) (by omega)]
    exact ⟨fun w => absurd z w, fun _ => ⟨rfl, h.thr⟩⟩
