theorem op_snapshot {i : Nat} {T : St} (h : Rel i T T) : wp_X6_snapshot T (fun r T1 => wp_X7_snapshot T1 (fun r' T2 => r = r' ∧ Rel (i + 1) T2 T2)) := by
  obtain ⟨l, n, mem, bg, ns, sn, nk, fi, kp, h1, h2, h3, h4, h5, h6⟩ := id h
  have hns := h4.1
  unfold wp_X6_snapshot
  have e4 : (nI ns < (4 : Int32)) ↔ ns < 4 := ltN (b := 4) (by omega) (by omega)
  have e4' : (nI ns = (4 : Int32)) ↔ ns = 4 := nIe (b := 4) (by omega) (by omega)
  rw [h4.2.1, e4]
  refine ⟨fun q => ⟨vin q (by omega), ?_⟩, fun q => ?_⟩
  · rintro T3 e3
    rw [cl (by omega), show 18 + 1 + ns = 19 + ns by omega] at e3
    have c3 : ∀ j, j ≠ 19 + ns → T3.1 j = T.1 j := fun j hj => by rw [e3, sa_ne hj]
    have c3s : ∀ p, p < 256 → T3.1 (19 + ns) p = nI (mem p) := fun p hp => by rw [e3, sa_eq, cpy256 hp]; exact (h1.2.2.2.1 p hp).1
    rw [c3 0 (by omega), h4.2.1, nI_1, sv_k, show nI (ns + 1) - 1 = nI ns from nI_pred ns]
    obtain ⟨C2, e2⟩ : ∃ C2, C2 = sv T3 0 10 (nI (ns + 1)) := ⟨_, rfl⟩
    rw [← e2]
    have ca : ∀ j, j ≠ 0 → j ≠ 19 + ns → C2.1 j = T.1 j := fun j a b => by rw [e2, sv_ne a, c3 j b]
    have c0 : ∀ j, j ≠ 10 → C2.1 0 j = T.1 0 j := fun j hj => by rw [e2, sv_j hj, c3 0 (by omega)]
    have c010 : C2.1 0 10 = nI (ns + 1) := by rw [e2, sv_k]
    have cs : C2.2 = T.2 := by rw [e2, e3]; rfl
    unfold wp_X7_snapshot
    rw [sv_j (by decide), ca 130 (by decide) (by omega), h5.1, e4']
    refine ⟨fun _ => ?_, fun z => by omega⟩
    obtain ⟨N, eN⟩ : ∃ N, N = sv C2 130 0 0 := ⟨_, rfl⟩
    rw [← eN]
    have nC : ∀ j, j ≠ 130 → N.1 j = C2.1 j := fun j a => by rw [eN, sv_ne a]
    have n130 : ∀ j, j ≠ 0 → N.1 130 j = T.1 130 j := fun j hj => by rw [eN, sv_j hj, ca 130 (by decide) (by omega)]
    refine LW_cnt 256 (fun k M => ∃ f, M = sa N 142 f ∧ (∀ k', k' < ns → ∀ p, p < 256 → f (256 * k' + p) = T.1 142 (256 * k' + p)) ∧ ∀ p, p < k → f (256 * ns + p) = nI (mem p)) ⟨N.1 142, by rw [sa_self], fun k' _ p _ => by rw [nC 142 (by decide), ca 142 (by decide) (by omega)], fun p hp => by omega⟩ ?_
    rintro k M hk ⟨f, rfl, f1, f2⟩ kk hkk
    unfold wb_X7_snapshot_18
    rw [n_256, leN (by omega) (by omega), sa_ne (o := 142) (i := 130) (by decide), n130 19 (by decide), h5.1, nI_mul, nI_add, nI_1, sv_k, show nI (ns + 1) - 1 = nI ns from nI_pred ns]
    refine ⟨fun q2 => ⟨rfl, ?_⟩, fun q2 => ⟨vin (by omega) (by omega), vin (by omega) (by omega), ?_⟩⟩
    · obtain ⟨F, eF⟩ : ∃ F, F = sv (sa N 142 f) 130 19 (nI (ns + 1)) := ⟨_, rfl⟩
      rw [← eF]
      have fa : ∀ j, j ≠ 130 → j ≠ 142 → F.1 j = C2.1 j := fun j a b => by rw [eF, sv_ne a, sa_ne b, nC j a]
      have f130 : ∀ j, j ≠ 0 → j ≠ 19 → F.1 130 j = T.1 130 j := fun j a b => by rw [eF, sv_j b, sa_ne (by decide), n130 j a]
      have em : EqM T F := ⟨fun j a b => by rw [fa j (by omega) (by omega), ca j (by omega) (by omega)], fun j hj => f130 j (by omega) (by omega)⟩
      refine Rel.fin2 (ns := ns + 1) (sn := fun k' => if k' = ns then mem else sn k') (h1.cg (fun j hj => by rw [fa j (by omega) (by omega), ca j (by omega) (by omega)]) (by rw [fa 0 (by decide) (by decide), c0 9 (by decide)]) (by rw [fa 0 (by decide) (by decide), c0 12 (by decide)]) em) (h2.cg (fun j hj => by rw [fa j (by omega) (by omega), ca j (by omega) (by omega)])) (h3.cg (by rw [fa 143 (by decide) (by decide), ca 143 (by decide) (by omega)]) (f130 21 (by decide) (by decide))) ⟨by omega, by rw [fa 0 (by decide) (by decide), c010], fun k' hk' p hp => ?_⟩ ⟨by rw [eF, sv_k], fun k' hk' p hp => ?_⟩ (h6.cg (by omega) (fun j hj => by rw [fa 0 (by decide) (by decide)]; exact c0 j (by omega)) (by rw [fa 117 (by decide) (by decide), ca 117 (by decide) (by omega)]) (fun j hj => f130 j (by omega) (by omega)) (by rw [fa 145 (by decide) (by decide), ca 145 (by decide) (by omega)]) (by rw [eF, sv2, sa2, eN, sv2, cs]))
      · show (if k' = ns then mem else sn k') p < 256 ∧ F.1 (19 + k') p = nI ((if k' = ns then mem else sn k') p)
        rw [fa _ (by omega) (by omega)]
        by_cases e : k' = ns
        · rw [if_pos e, e, e2, sv_ne (by omega)]; exact ⟨(h1.2.2.2.1 p hp).2, c3s p hp⟩
        · rw [if_neg e, ca _ (by omega) (by omega)]; exact h4.2.2 k' (by omega) p hp
      · show F.1 142 (256 * k' + p) = nI ((if k' = ns then mem else sn k') p)
        rw [eF, sv_ne (by decide), sa_eq]
        by_cases e : k' = ns
        · rw [if_pos e, e]; exact f2 p (by omega)
        · rw [if_neg e, f1 k' (by omega) p hp]; exact h5.2 k' (by omega) p hp
    · rw [cl (by omega), cl (i := k) (by omega), sv_sa, sa_ne (by decide), nC 131 (by decide), ca 131 (by decide) (by omega), (h1.1.2.1 k (by omega)).1]
      refine hkk _ (by omega) ⟨_, rfl, fun k' hk' p hp => ?_, fun p hp => ?_⟩
      · rw [upd_j (by omega)]; exact f1 k' hk' p hp
      · by_cases e : p = k
        · subst e; exact upd_k
        · rw [upd_j (by omega)]; exact f2 p (by omega)
  · show wp_X7_snapshot T _
    unfold wp_X7_snapshot
    rw [sv_j (o := 130) (k := 0) (j := 19) (by decide), h5.1, e4']
    exact ⟨fun z => by omega, fun _ => ⟨rfl, h.thr⟩⟩
theorem op_ran {i : Nat} {a1 : Int32} {T : St} (h : Rel i T T) : wp_X6_ran a1 T (fun r T1 => wp_X7_ran a1 T1 (fun r' T2 => r = r' ∧ Rel (i + 1) T2 T2)) := by
  obtain ⟨l, n, mem, bg, ns, sn, nk, fi, kp, h1, h2, h3, h4, h5, h6⟩ := id h
  obtain ⟨-, -, ⟨t0, t1, t2, t3, t4, t5, t6, t7, t8⟩, -⟩ := h6
  have bad : ∀ r : Int32, (a1 < 0 ∨ 8 < a1) → r = -2000000002 → wp_X7_ran a1 T (fun r' T2 => r = r' ∧ Rel (i + 1) T2 T2) := fun r hb e => by
    unfold wp_X7_ran
    exact s_in_bad hb ⟨fun _ => ⟨e, h.thr⟩, fun z => absurd rfl z⟩
  have good : ∀ (k : Nat) (r : Int32), k ≤ 8 → a1 = nI k → r = T.1 145 k → wp_X7_ran a1 T (fun r' T2 => r = r' ∧ Rel (i + 1) T2 T2) := fun k r hk e er => by
    subst e
    unfold wp_X7_ran
    refine s_in_ok (lo := 0) (hi := 8) (by omega) hk (by omega) ⟨fun z => absurd z (by decide), fun _ => ⟨vin (by omega) (by omega), ?_, h.thr⟩⟩
    rw [cl (by omega), sv_ne (by decide), er]
  unfold wp_X6_ran
  refine ⟨fun e => good 0 _ (by omega) e t0.symm, fun n0 => ⟨fun e => good 1 _ (by omega) e t1.symm, fun n1 => ⟨fun e => good 2 _ (by omega) e t2.symm, fun n2 => ⟨fun e => good 3 _ (by omega) e t3.symm, fun n3 => ⟨fun e => good 4 _ (by omega) e t4.symm, fun n4 => ⟨fun e => good 5 _ (by omega) e t5.symm, fun n5 => ⟨fun e => good 6 _ (by omega) e t6.symm, fun n6 => ⟨fun e => good 7 _ (by omega) e t7.symm, fun n7 => ⟨fun e => good 8 _ (by omega) e t8.symm, fun n8 => bad _ ?_ rfl⟩⟩⟩⟩⟩⟩⟩⟩⟩
  rcases x_cases a1 8 (by omega) with hb | ⟨k, hk, rfl⟩
  · exact hb
  · exfalso
    rcases (show k = 0 ∨ k = 1 ∨ k = 2 ∨ k = 3 ∨ k = 4 ∨ k = 5 ∨ k = 6 ∨ k = 7 ∨ k = 8 by omega) with rfl | rfl | rfl | rfl | rfl | rfl | rfl | rfl | rfl
    · exact n0 rfl
    · exact n1 rfl
    · exact n2 rfl
    · exact n3 rfl
    · exact n4 rfl
    · exact n5 rfl
    · exact n6 rfl
    · exact n7 rfl
    · exact n8 rfl
/-- page -/
theorem op_page {i : Nat} {a1 : Int32} {T : St} (h : Rel i T T) : wp_X6_page a1 T (fun r T1 => wp_X7_page a1 T1 (fun r' T2 => r = r' ∧ Rel (i + 1) T2 T2)) := by
  obtain ⟨l, n, mem, bg, ns, sn, nk, fi, kp, h1, h2, h3, h4, h5, h6⟩ := id h
  have hn := h1.1.1.1
  have bad : (a1 < 0 ∨ 15 < a1) → wp_X7_page a1 T (fun r' T2 => -2 = r' ∧ Rel (i + 1) T2 T2) := fun hb => by
    unfold wp_X7_page
    exact s_in_bad hb ⟨fun z => absurd rfl z, fun _ => ⟨rfl, h.thr⟩⟩
  unfold wp_X6_page
  refine ⟨fun z => bad (Or.inl z), fun z0 => ⟨fun z1 => ?_, fun z1 => bad (Or.inr ?_)⟩⟩
  · obtain ⟨g, hg, rfl⟩ : ∃ g, g ≤ 15 ∧ a1 = nI g := by
      obtain ⟨g, hg, rfl⟩ := nI_of z0
      rw [n_16, ltN (by omega) (by omega)] at z1
      exact ⟨g, by omega, rfl⟩
    refine ⟨vin (by omega) (by omega), ?_⟩
    rw [cl (by omega)]
    have hpg := h1.1.2.2.2.2.2.2.2.2.2.2.2 g (by omega)
    have hlt := h1.1.2.2.2.2.2.1
    refine s_bitCount (fun r hr => ?_) ?_
    · cases e : bt (T.1 3 g) r with
      | false => rfl
      | true => have := (hpg r (bt_lt e)).mp e; omega
    · unfold wp_X7_page
      refine s_in_ok (lo := 0) (hi := 15) (by omega) hg (by omega) ⟨fun _ => ?_, fun z => absurd z (by decide)⟩
      obtain ⟨N, eN⟩ : ∃ N, N = sv T 130 0 0 := ⟨_, rfl⟩
      rw [← eN]
      have nC : ∀ j, j ≠ 130 → N.1 j = T.1 j := fun j a => by rw [eN, sv_ne a]
      have n2 : N.1 130 2 = nI n := by rw [eN, sv_j (by decide)]; exact h1.1.1.2.2
      have hin : ∀ r, r < n → l r = true → ∀ k, k < 16 → (T.1 135 (256 * r + 16 * g + k) = 0 ↔ ¬ row T 135 r (16 * g + k) = 1) := fun r hr hl k hk => by
        have := (h1.1.b01 hr hl (16 * g + k) (by omega)).2
        show T.1 135 (256 * r + 16 * g + k) = 0 ↔ ¬ T.1 135 (256 * r + (16 * g + k)) = 1
        have e : row T 135 r (16 * g + k) = T.1 135 (256 * r + 16 * g + k) := by unfold row; rw [Nat.add_assoc]
        rw [e] at this
        rw [← Nat.add_assoc]
        rcases this with z | z <;> rw [z] <;> decide
      refine LW_acc n (fun r x M => M = N ∧ x = nI (cnt (bt (T.1 3 g)) r)) ⟨rfl, rfl⟩ ?_
      rintro r x M hr ⟨rfl, rfl⟩ k7 hk7
      have hcr := cnt_le (bt (T.1 3 g)) r
      unfold wb_X7_page_22
      show (M.1 130 2 ≤ nI r → _) ∧ _
      rw [n2, leN (by omega) (by omega)]
      refine ⟨fun q => ⟨?_, by rw [eN]; exact h.thr⟩, fun q => ?_⟩
      · rw [show r = n by omega]
        exact congrArg nI (cnt_ext hn (fun _ _ => rfl) (fun j a b => by
          cases e : bt (T.1 3 g) j with
          | false => rfl
          | true => have := (hpg j (bt_lt e)).mp e; omega))
      · refine LW_acc 16 (fun k y M' => M' = M ∧ B01 y ∧ (y = 1 ↔ l r = true ∧ ∃ k', k' < k ∧ row T 135 r (16 * g + k') = 1)) ⟨rfl, Or.inl rfl, fun e => absurd e (by decide), fun ⟨_, k', hk', _⟩ => by omega⟩ ?_
        rintro k y M' hk ⟨rfl, hy, hyi⟩ k18 hk18
        have hbt : bt (T.1 3 g) r = true ↔ l r = true ∧ ∃ k', k' < 16 ∧ row T 135 r (16 * g + k') = 1 := by rw [hpg r (by omega)]; exact ⟨fun z => z.2, fun z => ⟨by omega, z⟩⟩
        have hcs : ∀ b : Bool, bt (T.1 3 g) r = b → cnt (bt (T.1 3 g)) (r + 1) = cnt (bt (T.1 3 g)) r + (if b then 1 else 0) := fun b e => by
          show cnt (bt (T.1 3 g)) r + (if bt (T.1 3 g) r then 1 else 0) = _
          rw [e]
        have out : (l r = false ∨ k = 16) → (y = 0 → k7 (nI (cnt (bt (T.1 3 g)) r) + 0, nI r + 1) M') ∧ (¬ y = 0 → k7 (nI (cnt (bt (T.1 3 g)) r) + 1, nI r + 1) M') := fun hh => by
          refine ⟨fun e => hk7 _ _ (by omega) ⟨rfl, ?_⟩, fun e => hk7 _ _ (by omega) ⟨rfl, ?_⟩⟩
          · have : bt (T.1 3 g) r = false := by
              cases e2 : bt (T.1 3 g) r with
              | false => rfl
              | true =>
                obtain ⟨z1, k', z2, z3⟩ := hbt.mp e2
                rcases hh with w | w
                · rw [w] at z1; cases z1
                · have := hyi.mpr ⟨z1, k', by omega, z3⟩; rw [e] at this; exact absurd this (by decide)
            rw [hcs false this]; exact Int32.add_zero _
          · obtain ⟨z1, k', z2, z3⟩ := hyi.mp (hy.ne.mp e)
            rw [hcs true (hbt.mpr ⟨z1, k', by omega, z3⟩), nI_1]; rfl
        unfold wb_X7_page_36
        show (16 ≤ nI k → _) ∧ _
        rw [n_16, leN (by omega) (by omega)]
        refine ⟨fun q2 => out (Or.inr (by omega)), fun q2 => ⟨vin (by omega) (by omega), ?_⟩⟩
        rw [cl (by omega), nC 133 (by decide)]
        have hhas := h1.1.has (r := r) (by omega)
        refine ⟨fun e => out (Or.inl ?_), fun e => ?_⟩
        · cases e2 : l r with
          | false => rfl
          | true => exact absurd e (hhas.mpr e2)
        · have hl := hhas.mp e
          refine ⟨fun ey => hk18 _ _ (by omega) ⟨rfl, Or.inr rfl, fun _ => ?_, fun _ => rfl⟩, fun ey => ?_⟩
          · obtain ⟨z1, k', z2, z3⟩ := hyi.mp (hy.ne.mp ey)
            exact ⟨z1, k', by omega, z3⟩
          · have ey : y = 0 := ey
            rw [show (256 : Int32) * nI r + nI 16 * nI g + nI k = nI (256 * r + 16 * g + k) by rw [n_256, nI_mul, nI_mul, nI_add, nI_add]]
            refine ⟨vin (by omega) (by omega), ?_⟩
            rw [cl (by omega), nC 135 (by decide), hin r (by omega) hl k (by omega)]
            refine ⟨fun e2 => hk18 _ _ (by omega) ⟨rfl, Or.inl rfl, fun z => absurd z (by decide), fun ⟨_, k', z2, z3⟩ => ?_⟩, fun e2 => hk18 _ _ (by omega) ⟨rfl, Or.inr rfl, fun _ => ⟨hl, k, by omega, Classical.byContradiction e2⟩, fun _ => rfl⟩⟩
            by_cases e3 : k' = k
            · subst e3; exact absurd z3 e2
            · have := hyi.mpr ⟨hl, k', by omega, z3⟩; rw [ey] at this; exact absurd this (by decide)
  · obtain ⟨g, hg, rfl⟩ := nI_of z0
    rw [n_16, ltN (by omega) (by omega)] at z1
    show nI 15 < nI g
    exact nI_lt (by omega) (by omega)
