/-! count, clear -/
theorem s_walked {r : Nat} {C : St} {post : Int32 → St → Prop} (h0 : C.1 (27 + 9 * r) 4 < 3 → post 0 C) (h1 : ¬ C.1 (27 + 9 * r) 4 < 3 → post 1 C) : wp_X5_isWalkedForGood (27 + 9 * r) C post := ⟨h0, h1⟩
def wfg (C : St) (r : Nat) : Bool := decide (¬ C.1 (27 + 9 * r) 4 < 3)
theorem s_countWalked {n : Nat} {C : St} {post : Int32 → St → Prop} (hn : n ≤ 10) (he : C.1 0 9 = nI n) (h : post (nI (cnt (wfg C) n)) C) : wp_X6_countWalkedForGood C post := by
  unfold wp_X6_countWalkedForGood
  refine LW_acc n (fun r x T => T = C ∧ x = nI (cnt (wfg C) r)) ⟨rfl, rfl⟩ ?_
  rintro r x T hr ⟨rfl, rfl⟩ k hk
  have hcl := cnt_le (wfg T) r
  unfold wb_X6_countWalkedForGood_4
  show (T.1 0 9 ≤ nI r → _) ∧ _
  rw [he, leN (by omega) (by omega)]
  refine ⟨fun q => by rw [show r = n by omega]; exact h, fun q => ⟨vin (by omega) (by omega), ?_⟩⟩
  rw [cl (by omega)]
  have hs : cnt (wfg T) (r + 1) = cnt (wfg T) r + (if wfg T r then 1 else 0) := rfl
  refine s_walked (fun z => ⟨fun _ => hk _ _ (by omega) ⟨rfl, ?_⟩, fun w => absurd rfl w⟩) (fun z => ⟨fun w => absurd w (by decide), fun _ => hk _ _ (by omega) ⟨rfl, ?_⟩⟩)
  · rw [hs, show wfg T r = false by unfold wfg; simp [z]]; rfl
  · rw [hs, show wfg T r = true by unfold wfg; exact decide_eq_true z]; exact nI_1 _
theorem op_count {i : Nat} {a1 : Int32} {T : St} (h : Rel i T T) : wp_X6_count a1 T (fun r T1 => wp_X7_count a1 T1 (fun r' T2 => r = r' ∧ Rel (i + 1) T2 T2)) := by
  obtain ⟨l, n, mem, bg, ns, sn, nk, fi, kp, h1, h2, h3, h4, h5, h6⟩ := id h
  have hn := h1.1.1.1
  have hlt := h1.1.2.2.2.2.2.1
  -- the model's loop
  have mod : ∀ P : Int32 → St → Prop, ((a1 = 0 → P (nI n) (sv T 130 0 0)) ∧ (¬ a1 = 0 → (a1 = 1 → P (nI (cnt l n)) (sv T 130 0 0)) ∧ (¬ a1 = 1 → (a1 = 2 → P (nI ns) (sv T 130 0 0)) ∧ (¬ a1 = 2 → (a1 = 3 → P (nI nk) (sv T 130 0 0)) ∧ (¬ a1 = 3 → (a1 = 4 → P (T.1 130 13) (sv T 130 0 0)) ∧ (¬ a1 = 4 → (a1 = 5 → P (T.1 130 14) (sv T 130 0 0)) ∧ (¬ a1 = 5 → (a1 = 6 → P (T.1 130 15) (sv T 130 0 0)) ∧ (¬ a1 = 6 → (a1 = 7 → P (T.1 130 16) (sv T 130 0 0)) ∧ (¬ a1 = 7 → (a1 = 8 → P (nI (cnt (wfg T) n)) (sv T 130 0 0)) ∧ (¬ a1 = 8 → P (-2) (sv T 130 0 0))))))))))) → wp_X7_count a1 T P := fun P hh => by
    unfold wp_X7_count
    obtain ⟨N, eN⟩ : ∃ N, N = sv T 130 0 0 := ⟨_, rfl⟩
    rw [← eN] at hh ⊢
    have nC : ∀ j, j ≠ 130 → N.1 j = T.1 j := fun j a => by rw [eN, sv_ne a]
    have n130 : ∀ j, j ≠ 0 → N.1 130 j = T.1 130 j := fun j a => by rw [eN, sv_j a]
    refine LW_gen n (fun r v M => M = N ∧ v.1 = nI (cnt l r) ∧ v.2.1 = nI (cnt (wfg T) r) ∧ v.2.2 = nI r) ⟨rfl, rfl, rfl, rfl⟩ ?_
    rintro r ⟨x, y, z⟩ M hr ⟨rfl, ex, ey, ez⟩ k hk
    have ex : x = nI (cnt l r) := ex
    have ey : y = nI (cnt (wfg T) r) := ey
    have ez : z = nI r := ez
    subst ex; subst ey; subst ez
    have hc1 := cnt_le l r
    have hc2 := cnt_le (wfg T) r
    unfold wb_X7_count_12
    show (M.1 130 2 ≤ nI r → _) ∧ _
    rw [n130 2 (by decide), h1.1.1.2.2, leN (by omega) (by omega), n130 19 (by decide), h5.1, n130 21 (by decide), h3.1, n130 13 (by decide), n130 14 (by decide), n130 15 (by decide), n130 16 (by decide)]
    refine ⟨fun q => ?_, fun q => ⟨vin (by omega) (by omega), ?_⟩⟩
    · rw [show r = n by omega]; exact hh
    · have hhas := h1.1.has (r := r) (by omega)
      have hdr : T.1 137 r = T.1 (27 + 9 * r) 4 := ((h1.1.2.2.2.2.2.2.2.2.2.1 r (by omega)).2.2 (by unfold drp; simp)).1
      have go : ∀ (b : Bool) (v : Int32), l r = b → v = (if b then 1 else 0) → wj_X7_count_37 k (nI (cnt (wfg T) r)) (nI r) v (nI (cnt l r)) M P := fun b v hb hv => by
        have hs1 : nI (cnt l r) + v = nI (cnt l (r + 1)) := by
          show _ = nI (cnt l r + (if l r then 1 else 0))
          rw [hb, hv]; cases b
          · exact Int32.add_zero _
          · exact nI_1 _
        have hs2 : cnt (wfg T) (r + 1) = cnt (wfg T) r + (if wfg T r then 1 else 0) := rfl
        unfold wj_X7_count_37
        refine ⟨vin (by omega) (by omega), ?_⟩
        rw [cl (by omega), nC 137 (by decide), hdr, hs1]
        refine ⟨fun w => hk _ _ (by omega) ⟨rfl, rfl, ?_, nI_1 r⟩, fun w => hk _ _ (by omega) ⟨rfl, rfl, ?_, nI_1 r⟩⟩
        · rw [hs2, show wfg T r = false by unfold wfg; simp [w]]; exact Int32.add_zero _
        · rw [hs2, show wfg T r = true by unfold wfg; exact decide_eq_true w]; exact nI_1 _
      show (M.1 133 (nI r).toNatClampNeg = 0 → _) ∧ _
      rw [cl (by omega), nC 133 (by decide)]
      refine ⟨fun w => go false 0 ?_ rfl, fun w => go true 1 (hhas.mp w) rfl⟩
      cases e : l r with
      | false => rfl
      | true => exact absurd w (hhas.mpr e)
  have thr := h.thr (v := 0)
  unfold wp_X6_count
  refine ⟨fun e => mod _ ⟨fun _ => ⟨h1.1.1.2.1, thr⟩, fun z => absurd e z⟩, fun n0 => ⟨fun e => s_bitCount (fun r hr => ?_) (mod _ ⟨fun z => absurd z n0, fun _ => ⟨fun _ => ⟨?_, thr⟩, fun z => absurd e z⟩⟩), fun n1 => ⟨fun e => mod _ ⟨fun z => absurd z n0, fun _ => ⟨fun z => absurd z n1, fun _ => ⟨fun _ => ⟨h4.2.1, thr⟩, fun z => absurd e z⟩⟩⟩, fun n2 => ⟨fun e => mod _ ⟨fun z => absurd z n0, fun _ => ⟨fun z => absurd z n1, fun _ => ⟨fun z => absurd z n2, fun _ => ⟨fun _ => ⟨h2.2.2.1, thr⟩, fun z => absurd e z⟩⟩⟩⟩, fun n3 => ⟨fun e => mod _ ⟨fun z => absurd z n0, fun _ => ⟨fun z => absurd z n1, fun _ => ⟨fun z => absurd z n2, fun _ => ⟨fun z => absurd z n3, fun _ => ⟨fun _ => ⟨h1.2.2.2.2, thr⟩, fun z => absurd e z⟩⟩⟩⟩⟩, fun n4 => ⟨fun e => mod _ ⟨fun z => absurd z n0, fun _ => ⟨fun z => absurd z n1, fun _ => ⟨fun z => absurd z n2, fun _ => ⟨fun z => absurd z n3, fun _ => ⟨fun z => absurd z n4, fun _ => ⟨fun _ => ⟨h6.1, thr⟩, fun z => absurd e z⟩⟩⟩⟩⟩⟩, fun n5 => ⟨fun e => mod _ ⟨fun z => absurd z n0, fun _ => ⟨fun z => absurd z n1, fun _ => ⟨fun z => absurd z n2, fun _ => ⟨fun z => absurd z n3, fun _ => ⟨fun z => absurd z n4, fun _ => ⟨fun z => absurd z n5, fun _ => ⟨fun _ => ⟨?_, thr⟩, fun z => absurd e z⟩⟩⟩⟩⟩⟩⟩, fun n6 => ⟨fun e => mod _ ⟨fun z => absurd z n0, fun _ => ⟨fun z => absurd z n1, fun _ => ⟨fun z => absurd z n2, fun _ => ⟨fun z => absurd z n3, fun _ => ⟨fun z => absurd z n4, fun _ => ⟨fun z => absurd z n5, fun _ => ⟨fun z => absurd z n6, fun _ => ⟨fun _ => ⟨h6.2.1, thr⟩, fun z => absurd e z⟩⟩⟩⟩⟩⟩⟩⟩, fun n7 => ⟨fun e => s_countWalked hn h1.1.1.2.1 (mod _ ⟨fun z => absurd z n0, fun _ => ⟨fun z => absurd z n1, fun _ => ⟨fun z => absurd z n2, fun _ => ⟨fun z => absurd z n3, fun _ => ⟨fun z => absurd z n4, fun _ => ⟨fun z => absurd z n5, fun _ => ⟨fun z => absurd z n6, fun _ => ⟨fun z => absurd z n7, fun _ => ⟨fun _ => ⟨rfl, thr⟩, fun z => absurd e z⟩⟩⟩⟩⟩⟩⟩⟩⟩), fun n8 => mod _ ⟨fun z => absurd z n0, fun _ => ⟨fun z => absurd z n1, fun _ => ⟨fun z => absurd z n2, fun _ => ⟨fun z => absurd z n3, fun _ => ⟨fun z => absurd z n4, fun _ => ⟨fun z => absurd z n5, fun _ => ⟨fun z => absurd z n6, fun _ => ⟨fun z => absurd z n7, fun _ => ⟨fun z => absurd z n8, fun _ => ⟨rfl, thr⟩⟩⟩⟩⟩⟩⟩⟩⟩⟩⟩⟩⟩⟩⟩⟩⟩⟩⟩
  · cases e2 : bt (T.1 4 2) r with
    | false => rfl
    | true => have := bt_lt e2; rw [h1.2.2.1 r this] at e2; have := hlt r e2; omega
  · refine congrArg nI (cnt_ext hn (fun r hr => h1.2.2.1 r (by omega)) (fun r a b => ?_))
    cases e2 : bt (T.1 4 2) r with
    | false => rfl
    | true => rw [h1.2.2.1 r (by omega)] at e2; have := hlt r e2; omega
  · have := h1.2.1
    unfold DC at this
    rw [this, drp_self]
    exact (Int32.add_zero _).symm
theorem op_clear {i : Nat} {T : St} (h : Rel i T T) : wp_X6_clear T (fun r T1 => wp_X7_clear T1 (fun r' T2 => r = r' ∧ Rel (i + 1) T2 T2)) := by
  obtain ⟨l, n, mem, bg, ns, sn, nk, fi, kp, h1, h2, h3, h4, h5, h6⟩ := id h
  unfold wp_X6_clear wp_X4_empty
  refine s_fill (by omega) ?_
  unfold wp_X4_beginChanges wp_X1_empty
  refine s_fill (by omega) (s_fill (by omega) ?_)
  unfold wp_X2_empty wp_X0_empty
  rintro T7 e7
  obtain ⟨C2, e2⟩ : ∃ C2, C2 = sv (sv (sv (sv (sv (sv (sv T7 0 9 0) 0 10 0) 0 11 0) 0 12 0) 0 13 0) 0 14 0) 0 15 0 := ⟨_, rfl⟩
  rw [← e2]
  have s7 : ∀ j, j ≠ 0 → C2.1 j = T7.1 j := fun j hj => by rw [e2]; simp only [sv_ne hj]
  have t7 : ∀ j, j ≠ 117 → j ≠ 7 → j ≠ 2 → j ≠ 3 → j ≠ 4 → j ≠ 5 → T7.1 j = T.1 j := fun j a b c d e f => by rw [e7]; simp only [sv_ne a, sv_ne b, sa_ne c, sa_ne d, sv_ne e, sa_ne f]
  have c0 : ∀ j, j = 9 ∨ j = 10 ∨ j = 11 ∨ j = 12 ∨ j = 13 ∨ j = 14 ∨ j = 15 → C2.1 0 j = 0 := fun j hj => by
    rw [e2]
    rcases hj with rfl | rfl | rfl | rfl | rfl | rfl | rfl <;> simp [sv, sa, upd]
  have c2' : ∀ p, p < 256 → C2.1 2 p = 0 := fun p hp => by rw [s7 2 (by decide), e7]; simp [sv, sa, upd, hp]
  have c3' : ∀ p, p < 16 → C2.1 3 p = 0 := fun p hp => by rw [s7 3 (by decide), e7]; simp [sv, sa, upd, hp]
  have c5' : ∀ p, p < 256 → C2.1 5 p = 0 := fun p hp => by rw [s7 5 (by decide), e7]; simp [sv, sa, upd, hp]
  have c42 : C2.1 4 2 = 0 := by rw [s7 4 (by decide), e7]; simp [sv, sa, upd]
  have c44 : C2.1 4 4 = 0 := by rw [s7 4 (by decide), e7]; simp [sv, sa, upd]
  have c7 : C2.1 7 1 = 0 ∧ C2.1 7 2 = 0 := by rw [s7 7 (by decide), e7]; simp [sv, sa, upd]
  have c117 : ∀ j, j = 5 ∨ j = 6 ∨ j = 7 ∨ j = 8 ∨ j = 11 ∨ j = 12 ∨ j = 13 ∨ j = 14 → C2.1 117 j = 0 := fun j hj => by
    rw [s7 117 (by decide), e7]
    rcases hj with rfl | rfl | rfl | rfl | rfl | rfl | rfl | rfl <;> simp [sv, sa, upd]
  have crt : ∀ j, 27 ≤ j → j < 117 → C2.1 j = T.1 j := fun j a b => by rw [s7 j (by omega), t7 j (by omega) (by omega) (by omega) (by omega) (by omega) (by omega)]
  have cm : ∀ j, 130 ≤ j → C2.1 j = T.1 j := fun j a => by rw [s7 j (by omega), t7 j (by omega) (by omega) (by omega) (by omega) (by omega) (by omega)]
  rw [h1.1.1.2.1]
  -- the model
  unfold wp_X7_clear
  rintro T1 e1
  obtain ⟨N, eN⟩ : ∃ N, N = sl T1 130 18 0 := ⟨_, rfl⟩
  rw [← eN]
  have nC : ∀ j, j ≠ 130 → N.1 j = C2.1 j := fun j hj => by rw [eN, sl1, e1, sl1]; simp only [sv_ne hj]
  have n130 : ∀ j, j = 2 ∨ j = 19 ∨ j = 21 ∨ j = 13 ∨ j = 14 ∨ j = 15 ∨ j = 16 → N.1 130 j = 0 := fun j hj => by
    rw [eN, sl1, e1, sl1]
    rcases hj with rfl | rfl | rfl | rfl | rfl | rfl | rfl <;> simp [sv, sa, upd]
  have n17 : N.2 130 17 = 0 ∧ N.2 130 18 = 0 := by rw [eN, e1]; simp [sl, vp_updL]
  refine LW_cnt 256 (fun k M => ∃ f, M = sa N 131 f ∧ ∀ p, p < k → f p = 0) ⟨N.1 131, by rw [sa_self], fun p hp => by omega⟩ ?_
  rintro k M hk ⟨f, rfl, hf⟩ kk hkk
  unfold wb_X7_clear_57
  rw [n_256, leN (by omega) (by omega)]
  refine ⟨fun q => ?_, fun q => ⟨vin (by omega) (by omega), ?_⟩⟩
  · refine LW_cnt 9 (fun k' M => ∃ f', M = sa (sa N 131 f) 145 f' ∧ ∀ p, p < k' → f' p = 0) ⟨(sa N 131 f).1 145, by rw [sa_self], fun p hp => by omega⟩ ?_
    rintro k' M hk' ⟨f', rfl, hf'⟩ kk' hkk'
    unfold wb_X7_clear_79
    rw [n_9, leN (by omega) (by omega)]
    refine ⟨fun q' => ⟨?_, ?_⟩, fun q' => ⟨vin (by omega) (by omega), ?_⟩⟩
    · rw [sv_j (by decide), cm 130 (by omega)]; exact h1.1.1.2.2.symm
    · obtain ⟨F, eF⟩ : ∃ F, F = sa (sa N 131 f) 145 f' := ⟨_, rfl⟩
      rw [← eF]
      have fa : ∀ j, j ≠ 130 → j ≠ 131 → j ≠ 145 → F.1 j = C2.1 j := fun j a b c => by rw [eF, sa_ne c, sa_ne b, nC j a]
      have f130 : F.1 130 = N.1 130 := by rw [eF, sa_ne (by decide), sa_ne (by decide)]
      have f131 : F.1 131 = f := by rw [eF, sa_ne (by decide), sa_eq]
      have f145 : F.1 145 = f' := by rw [eF, sa_eq]
      have fr : ∀ j, j < 130 → F.1 j = C2.1 j := fun j hj => fa j (by omega) (by omega) (by omega)
      have hor := h1.1.2.2.1
      refine Rel.fin2 (l := fun _ => false) (n := 0) (mem := fun _ => 0) (bg := fun _ => 0) (ns := 0) (sn := fun _ _ => 0) (nk := 0) (fi := 0) (kp := fun _ _ => 0) ⟨⟨⟨by omega, by rw [fr 0 (by omega), c0 9 (by omega)]; rfl, by rw [f130, n130 2 (by omega)]; rfl⟩, fun p hp => by rw [f131, hf p (by omega)]; exact ⟨rfl, show (0 : Nat) < 256 by omega⟩, fun r hr => ?_, fun r hr => by omega, fun _ z => z, fun _ z => (by cases z), fun r hr => by omega, fun r hr => by omega, fun r hr => by omega, fun r hr => by omega, fun p hp r hr => ?_, fun g hg r hr => ?_⟩, ?_, fun j hj => by rw [fr 4 (by omega), c42, b_0], fun p hp => by rw [fr 5 (by omega), c5' p hp]; exact ⟨rfl, show (0 : Nat) < 256 by omega⟩, by rw [fr 4 (by omega), c44, f130, n130 13 (by omega)]⟩ ⟨by omega, by omega, by rw [fr 7 (by omega), c7.2]; rfl, by rw [fr 7 (by omega), c7.1]; rfl, fun k hk => by omega⟩ ⟨by rw [f130, n130 21 (by omega)]; rfl, fun k hk => by omega⟩ ⟨by omega, by rw [fr 0 (by omega), c0 10 (by omega)]; rfl, fun k hk => by omega⟩ ⟨by rw [f130, n130 19 (by omega)]; rfl, fun k hk => by omega⟩ ⟨by rw [fr 0 (by omega), c0 11 (by omega), f130, n130 14 (by omega)], by rw [fr 0 (by omega), c0 13 (by omega), f130, n130 16 (by omega)], ?_, 0, 0, by omega, by rw [fr 0 (by omega), c0 14 (by omega)]; rfl, by rw [fr 0 (by omega), c0 15 (by omega)]; rfl, by rw [eF, sa2, sa2]; exact n17.1, by rw [eF, sa2, sa2]; exact n17.2⟩
      · unfold Ori; rw [fr _ (by omega), crt _ (by omega) (by omega)]; exact hor r hr
      · rw [fr 2 (by omega), c2' p hp, b_0]; exact ⟨fun z => (by cases z), fun z => by omega⟩
      · rw [fr 3 (by omega), c3' g hg, b_0]; exact ⟨fun z => (by cases z), fun z => by omega⟩
      · unfold DC; rw [f130, n130 15 (by omega), fr 0 (by omega), c0 12 (by omega), drp_self]; rfl
      · rw [f145, fr 117 (by omega), c117 5 (by omega), c117 6 (by omega), c117 7 (by omega), c117 8 (by omega), c117 11 (by omega), c117 12 (by omega), c117 13 (by omega), c117 14 (by omega)]
        exact ⟨hf' 0 (by omega), hf' 1 (by omega), hf' 2 (by omega), hf' 3 (by omega), hf' 4 (by omega), hf' 5 (by omega), hf' 6 (by omega), hf' 7 (by omega), hf' 8 (by omega)⟩
    · rw [cl (by omega), sv_sa]
      refine hkk' _ (by omega) ⟨_, rfl, fun p hp => ?_⟩
      by_cases e : p = k'
      · subst e; exact upd_k
      · rw [upd_j e]; exact hf' p (by omega)
  · rw [cl (by omega), sv_sa]
    refine hkk _ (by omega) ⟨_, rfl, fun p hp => ?_⟩
    by_cases e : p = k
    · subst e; exact upd_k
    · rw [upd_j e]; exact hf p (by omega)
