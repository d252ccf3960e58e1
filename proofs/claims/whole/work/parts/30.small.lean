/-! routine, snapshot, ran, page -/
theorem Rel.fin2 {i : Nat} {l : Nat → Bool} {n : Nat} {mem bg : Nat → Nat} {ns : Nat} {sn : Nat → Nat → Nat} {nk fi : Nat} {kp : Nat → Nat → Nat} {T : St} (core : Core l n mem bg T T) (kc : KC nk fi kp T) (km : KM nk kp T) (sc : SC ns sn T) (sm : SM ns sn T) (ct : Ct i T T) : Rel i T T := ⟨l, n, mem, bg, ns, sn, nk, fi, kp, core, kc, km, sc, sm, ct⟩
theorem op_routine {i : Nat} {a1 : Int32} {T : St} (h : Rel i T T) : wp_X6_routine a1 T (fun r T1 => wp_X7_routine a1 T1 (fun r' T2 => r = r' ∧ Rel (i + 1) T2 T2)) := by
  unfold wp_X6_routine
  rcases x_cases a1 255 (by omega) with hb | ⟨p, hp, rfl⟩
  · refine s_noPlace_bad hb ⟨fun z => absurd z (by decide), fun _ => ?_⟩
    unfold wp_X7_routine
    exact s_in_bad hb ⟨fun z => absurd rfl z, fun _ => ⟨rfl, h.thr⟩⟩
  refine s_noPlace_ok (by omega) ⟨fun _ => ?_, fun z => absurd rfl z⟩
  obtain ⟨l, n, mem, bg, ns, sn, nk, fi, kp, h1, h2, h3, h4, h5, h6⟩ := id h
  have hn := h1.1.1.1
  rw [h1.1.1.2.1, n_10, ltN (by omega) (by omega)]
  refine ⟨fun q => ⟨vin q (by omega), ?_⟩, fun q => ?_⟩
  · rw [cl (by omega)]
    unfold wp_X5_begin
    obtain ⟨o, eo⟩ : ∃ o, o = 27 + 9 * n := ⟨_, rfl⟩
    rw [← eo]
    obtain ⟨C1, e1⟩ : ∃ C1, C1 = sv (sv (sv T o 3 (nI p)) o 4 0) o 2 0 := ⟨_, rfl⟩
    rw [← e1]
    have c1 : ∀ j, j ≠ o → C1.1 j = T.1 j := fun j hj => by rw [e1, sv_ne hj, sv_ne hj, sv_ne hj]
    have f09 : C1.1 0 9 = nI n := by rw [c1 0 (by omega)]; exact h1.1.1.2.1
    rw [f09, nI_1, sv_k, show nI (n + 1) - 1 = nI n from nI_pred n]
    obtain ⟨C2, e2⟩ : ∃ C2, C2 = sv C1 0 9 (nI (n + 1)) := ⟨_, rfl⟩
    rw [← e2]
    have c2 : ∀ j, j ≠ 0 → C2.1 j = C1.1 j := fun j hj => by rw [e2, sv_ne hj]
    have c20 : ∀ j, j ≠ 9 → C2.1 0 j = T.1 0 j := fun j hj => by rw [e2, sv_j hj, c1 0 (by omega)]
    have c209 : C2.1 0 9 = nI (n + 1) := by rw [e2, sv_k]
    have g0 : C2.1 o 0 = T.1 o 0 ∧ C2.1 o 1 = T.1 o 1 := by rw [c2 o (by omega), e1, sv_j (by decide), sv_j (by decide), sv_j (by decide), sv_j (by decide), sv_j (by decide), sv_j (by decide)]; exact ⟨rfl, rfl⟩
    have g2 : C2.1 o 2 = 0 := by rw [c2 o (by omega), e1, sv_k]
    have g4 : C2.1 o 4 = 0 := by rw [c2 o (by omega), e1, sv_j (by decide), sv_k]
    have g3 : C2.1 o 3 = nI p := by rw [c2 o (by omega), e1, sv_j (by decide), sv_j (by decide), sv_k]
    have ca : ∀ j, j ≠ 0 → j ≠ o → C2.1 j = T.1 j := fun j a b => by rw [c2 j a, c1 j b]
    have cs : C2.2 = T.2 := by rw [e2, e1]; rfl
    -- the model
    unfold wp_X7_routine
    refine s_in_ok (lo := 0) (hi := 255) (by omega) hp (by omega) ⟨fun _ => ?_, fun z => absurd z (by decide)⟩
    obtain ⟨N, eN⟩ : ∃ N, N = sv C2 130 0 0 := ⟨_, rfl⟩
    rw [← eN]
    have n2 : N.1 130 2 = nI n := by rw [eN, sv_j (by decide), ca 130 (by decide) (by omega)]; exact h1.1.1.2.2
    rw [n2, n_10, nIe (by omega) (by omega)]
    refine ⟨fun _ => ?_, fun z => by omega⟩
    rw [sv_ne (o := 132) (i := 130) (by decide), n2]
    refine ⟨vin q (by omega), vin q (by omega), ?_⟩
    rintro T7 e7
    rw [cl (by omega), narZ0] at e7
    have n72 : T7.1 130 2 = nI n := by rw [e7, sv_ne (by decide), sv_ne (by decide)]; exact n2
    rw [sv_ne (o := 138) (i := 130) (by decide), n72]
    refine ⟨vin q (by omega), vin q (by omega), ?_⟩
    rintro T10 e10
    rw [cl (by omega), narZ0] at e10
    have n102 : T10.1 130 2 = nI n := by rw [e10, sv_ne (by decide), sv_ne (by decide)]; exact n72
    rw [n102, nI_1, sv_k, show nI (n + 1) - 1 = nI n from nI_pred n]
    refine ⟨rfl, ?_⟩
    obtain ⟨F, eF⟩ : ∃ F, F = sv T10 130 2 (nI (n + 1)) := ⟨_, rfl⟩
    rw [← eF]
    have fa : ∀ j, j ≠ 130 → j ≠ 132 → j ≠ 133 → j ≠ 137 → j ≠ 138 → F.1 j = C2.1 j := fun j a b c d e => by rw [eF, sv_ne a, e10, sv_ne d, sv_ne e, e7, sv_ne c, sv_ne b, eN, sv_ne a]
    have f130 : ∀ j, j ≠ 0 → j ≠ 2 → F.1 130 j = T.1 130 j := fun j a b => by rw [eF, sv_j b, e10, sv_ne (by decide), sv_ne (by decide), e7, sv_ne (by decide), sv_ne (by decide), eN, sv_j a, ca 130 (by decide) (by omega)]
    have f2 : F.1 130 2 = nI (n + 1) := by rw [eF, sv_k]
    have f132 : F.1 132 = upd (T.1 132) n (nI p) := by rw [eF, sv_ne (by decide), e10, sv_ne (by decide), sv_ne (by decide), e7, sv_ne (by decide), sv_eq, eN, sv_ne (by decide), ca 132 (by decide) (by omega)]
    have f133 : F.1 133 = upd (T.1 133) n 0 := by rw [eF, sv_ne (by decide), e10, sv_ne (by decide), sv_ne (by decide), e7, sv_eq, sv_ne (by decide), eN, sv_ne (by decide), ca 133 (by decide) (by omega)]
    have f137 : F.1 137 = upd (T.1 137) n 0 := by rw [eF, sv_ne (by decide), e10, sv_eq, sv_ne (by decide), e7, sv_ne (by decide), sv_ne (by decide), eN, sv_ne (by decide), ca 137 (by decide) (by omega)]
    have f138 : F.1 138 = upd (T.1 138) n 0 := by rw [eF, sv_ne (by decide), e10, sv_ne (by decide), sv_eq, e7, sv_ne (by decide), sv_ne (by decide), eN, sv_ne (by decide), ca 138 (by decide) (by omega)]
    have fc : ∀ j, j < 130 → j ≠ 0 → j ≠ o → F.1 j = T.1 j := fun j a b c => by rw [fa j (by omega) (by omega) (by omega) (by omega) (by omega), ca j b c]
    have fo : F.1 o = C2.1 o := fa o (by omega) (by omega) (by omega) (by omega) (by omega)
    have f0 : F.1 0 = C2.1 0 := fa 0 (by omega) (by omega) (by omega) (by omega) (by omega)
    have fm : ∀ j, 130 < j → j ≠ 132 → j ≠ 133 → j ≠ 137 → j ≠ 138 → F.1 j = T.1 j := fun j a b c d e => by rw [fa j (by omega) b c d e, ca j (by omega) (by omega)]
    have fs : F.2 = T.2 := by rw [eF, e10, e7, eN]; exact cs
    have er : ∀ a r, 130 < a → a ≠ 132 → a ≠ 133 → a ≠ 137 → a ≠ 138 → row F a r = row T a r := fun a r h1 h2 h3 h4 h5 => by unfold row; rw [fm a h1 h2 h3 h4 h5]
    obtain ⟨⟨⟨a1, a2, a3⟩, a4, a5, a6, a7, a8, a9, a10, a11, a12, a13, a14⟩, b1, b2, b3, b4⟩ := h1
    have hln : l n = false := by
      cases e : l n with
      | false => rfl
      | true => have := a8 n e; omega
    have ecu : ∀ r, r < n → cu F r = cu T r ∧ asi F r = asi T r := fun r hr => by unfold cu asi; rw [fc _ (by omega) (by omega) (by omega)]; exact ⟨rfl, rfl⟩
    have mrt : ∀ r x (a b c : Nat → Int32), r < n → MR (mb (27 + 9 * r) x) T a b c → MR (mb (27 + 9 * r) x) F a b c := fun r x a b c hr hm => hm.of (fun j j1 j2 => by have := mb_in r x; exact fc j (by omega) (by omega) (by omega))
    refine Rel.fin2 (l := l) (n := n + 1) (mem := mem) (bg := fun r => if r = n then p else bg r) ⟨⟨⟨by omega, by rw [f0]; exact c209, f2⟩, fun q hq => by rw [fm 131 (by omega) (by omega) (by omega) (by omega) (by omega)]; exact a4 q hq, fun r hr => ?_, fun r hr => ?_, a7, fun r hr => by have := a8 r hr; omega, fun r hr => ?_, fun r hr hb => ?_, fun r hr hb => ?_, fun r hr => ?_, fun q hq r hr => ?_, fun g hg r hr => ?_⟩, ?_, fun j hj => by rw [fc 4 (by omega) (by omega) (by omega)]; exact b2 j hj, fun q hq => by rw [fc 5 (by omega) (by omega) (by omega)]; exact b3 q hq, by rw [fc 4 (by omega) (by omega) (by omega), f130 13 (by decide) (by decide)]; exact b4⟩ (h2.cg (fun j hj => fc j (by omega) (by omega) (by omega))) (h3.cg (fm 143 (by omega) (by omega) (by omega) (by omega) (by omega)) (f130 21 (by decide) (by decide))) (h4.cg (fun j hj => fc j (by omega) (by omega) (by omega)) (by rw [f0]; exact c20 10 (by decide))) (h5.cg (fm 142 (by omega) (by omega) (by omega) (by omega) (by omega)) (f130 19 (by decide) (by decide))) (h6.cg (by omega) (fun j hj => by rw [f0]; exact c20 j (by omega)) (fc 117 (by omega) (by omega) (by omega)) (fun j hj => f130 j (by omega) (by omega)) (fm 145 (by omega) (by omega) (by omega) (by omega) (by omega)) (by rw [fs]))
    · unfold Ori
      by_cases e : r = n
      · subst e; rw [← eo, fo, g0.1, g0.2, eo]; exact a5 r hr
      · rw [fc _ (by omega) (by omega) (by omega)]; exact a5 r hr
    · show F.1 (27 + 9 * r) 3 = nI (if r = n then p else bg r) ∧ F.1 132 r = nI (if r = n then p else bg r) ∧ (if r = n then p else bg r) < 256
      by_cases e : r = n
      · subst e; rw [if_pos rfl, ← eo, fo, g3, f132, upd_k]; exact ⟨rfl, rfl, by omega⟩
      · rw [if_neg e, fc _ (by omega) (by omega) (by omega), f132, upd_j e]; exact a6 r (by omega)
    · rw [f133]
      by_cases e : r = n
      · subst e; rw [upd_k, hln]; exact ⟨Or.inl rfl, fun z => absurd z (by decide), fun z => by cases z⟩
      · rw [upd_j e]; exact a9 r (by omega)
    · have := a8 r hb
      rw [(ecu r this).1, er 134 r (by omega) (by omega) (by omega) (by omega) (by omega), er 135 r (by omega) (by omega) (by omega) (by omega) (by omega), er 136 r (by omega) (by omega) (by omega) (by omega) (by omega)]
      exact mrt r _ _ _ _ this (a10 r this hb)
    · have := a8 r (a7 r hb)
      rw [er 135 r (by omega) (by omega) (by omega) (by omega) (by omega), er 136 r (by omega) (by omega) (by omega) (by omega) (by omega)]
      exact a11 r this hb
    · by_cases e : r = n
      · subst e
        have hd : drp l l r = false := by unfold drp; simp
        rw [f137, f138, upd_k, upd_k, ← eo, fo, g4, g2, hd]
        exact ⟨Or.inl rfl, fun z => (by cases z), fun _ => ⟨rfl, rfl, fun z => absurd z (by decide)⟩⟩
      · have hr' : r < n := by omega
        rw [f137, f138, upd_j e, upd_j e, fc _ (by omega) (by omega) (by omega), (ecu r hr').2, er 134 r (by omega) (by omega) (by omega) (by omega) (by omega), er 135 r (by omega) (by omega) (by omega) (by omega) (by omega), er 136 r (by omega) (by omega) (by omega) (by omega) (by omega), er 139 r (by omega) (by omega) (by omega) (by omega) (by omega), er 140 r (by omega) (by omega) (by omega) (by omega) (by omega), er 141 r (by omega) (by omega) (by omega) (by omega) (by omega)]
        obtain ⟨x1, x2, x3⟩ := a12 r hr'
        exact ⟨x1, x2, fun z => ⟨(x3 z).1, (x3 z).2.1, fun w => mrt r _ _ _ _ hr' ((x3 z).2.2 w)⟩⟩
    · rw [fc 2 (by omega) (by omega) (by omega), er 135 r (by omega) (by omega) (by omega) (by omega) (by omega), a13 q hq r hr]
      exact ⟨fun z => ⟨by omega, z.2⟩, fun z => ⟨a8 r z.2.1, z.2⟩⟩
    · rw [fc 3 (by omega) (by omega) (by omega), er 135 r (by omega) (by omega) (by omega) (by omega) (by omega), a14 g hg r hr]
      exact ⟨fun z => ⟨by omega, z.2⟩, fun z => ⟨a8 r z.2.1, z.2⟩⟩
    · unfold DC at b1 ⊢
      rw [f130 15 (by decide) (by decide), f0, c20 12 (by decide)]; exact b1
  · unfold wp_X7_routine
    refine s_in_ok (lo := 0) (hi := 255) (by omega) hp (by omega) ⟨fun _ => ?_, fun z => absurd z (by decide)⟩
    rw [sv_j (by decide), h1.1.1.2.2, n_10, nIe (by omega) (by omega)]
    exact ⟨fun z => by omega, fun _ => ⟨rfl, h.thr⟩⟩
