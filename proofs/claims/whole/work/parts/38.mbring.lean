/-! the model's returned, its second half -/
theorem s_isAsMade {r : Nat} {T : St} {post : Int32 → St → Prop} (hr : r < 10) (h1 : (∀ k, k < 256 → T.1 140 (256 * r + k) = 0 ∨ T.1 141 (256 * r + k) = T.1 131 k) → post 1 T) (h0 : (¬ ∀ k, k < 256 → T.1 140 (256 * r + k) = 0 ∨ T.1 141 (256 * r + k) = T.1 131 k) → post 0 T) : wp_X7_isAsMade (nI r) T post := by
  unfold wp_X7_isAsMade
  refine LW_acc 256 (fun i x T' => T' = T ∧ B01 x ∧ (x = 1 ↔ ∀ k, k < i → T.1 140 (256 * r + k) = 0 ∨ T.1 141 (256 * r + k) = T.1 131 k)) ⟨rfl, Or.inr rfl, fun _ k hk => by omega, fun _ => rfl⟩ ?_
  rintro i x T' hi ⟨rfl, hx, hiff⟩ k hk
  unfold wb_X7_isAsMade_4
  show (256 ≤ nI i → _) ∧ _
  rw [n_256, leN (by omega) (by omega)]
  refine ⟨fun q => ⟨narN hx, ?_⟩, fun q => ?_⟩
  · have : i = 256 := by omega
    subst this
    rcases hx with hx | hx
    · have hx : x = 0 := hx
      subst hx
      exact h0 (fun w => absurd (hiff.mpr w) (by decide))
    · have hx : x = 1 := hx
      subst hx
      exact h1 (hiff.mp rfl)
  · rw [← n_256, ix256, cl (by omega), cl (i := i) (by omega)]
    have bad : ¬ (∀ k, k < i + 1 → T'.1 140 (256 * r + k) = 0 ∨ T'.1 141 (256 * r + k) = T'.1 131 k) → k (0, nI i + 1) T' := fun w => hk _ _ (by omega) ⟨rfl, Or.inl rfl, fun u => absurd u (by decide), fun u => absurd u w⟩
    refine ⟨fun e => bad (fun w => ?_), fun e => ⟨vin (by omega) (by omega), ?_⟩⟩
    · have := hiff.mpr (fun k hk => w k (by omega))
      have e : x = 0 := e
      rw [e] at this; exact absurd this (show ¬ (0 : Int32) = 1 by decide)
    · have e1 := hiff.mp (hx.ne.mp e)
      have good : (T'.1 140 (256 * r + i) = 0 ∨ T'.1 141 (256 * r + i) = T'.1 131 i) → k (1, nI i + 1) T' := fun w => hk _ _ (by omega) ⟨rfl, Or.inr rfl, fun _ k' hk' => (by
        by_cases e' : k' = i
        · subst e'; exact w
        · exact e1 k' (by omega)), fun _ => rfl⟩
      refine ⟨fun z => good (Or.inl z), fun z => ⟨vin (by omega) (by omega), vin (by omega) (by omega), fun z2 => bad (fun w => (w i (by omega)).elim z z2), fun z2 => good (Or.inr z2)⟩⟩
theorem bk_138 {M : St} : ∀ (r j : Nat), (gsq bkD bkG M r).1.1 138 j ≠ 0 → M.1 138 j ≠ 0
  | 0, _, h => h
  | r + 1, j, h => by
    by_cases e : bkD r (gsq bkD bkG M r).1
    · rw [gsq_y e] at h
      have h : (bkG r (gsq bkD bkG M r).1).1 138 j ≠ 0 := h
      unfold bkG at h
      rw [sv_ne (by decide)] at h
      by_cases q : j = r
      · subst q; rw [sv_k] at h; exact absurd rfl h
      · rw [sv_j q, bkR_ne (by decide) (by decide) (by decide)] at h
        exact bk_138 r j h
    · rw [gsq_n e] at h
      exact bk_138 r j h
theorem bk_eq {N T : St} (e : EqM N T) (r : Nat) : EqM (bkG r N) (sv (sv (bkR r T) 133 r 1) 138 r 0) := by
  refine ⟨fun i a b => ?_, fun j hj => ?_⟩
  · unfold bkG
    by_cases q : i = 133
    · subst q; rw [sv_ne (by decide), sv_eq, sv_eq, sv_ne (by decide), bkR_ne (by decide) (by decide) (by decide), bkR_ne (by decide) (by decide) (by decide), e.1 133 (by omega) (by omega)]
    · by_cases q' : i = 138
      · subst q'; rw [sv_eq, sv_ne (by decide), sv_ne (by decide), sv_eq, bkR_ne (by decide) (by decide) (by decide), bkR_ne (by decide) (by decide) (by decide), e.1 138 (by omega) (by omega)]
      · rw [sv_ne q', sv_ne q, sv_ne q, sv_ne q']
        unfold bkR
        by_cases q1 : i = 134
        · subst q1; rw [t3_134, t3_134, e.1 134 (by omega) (by omega), e.1 139 (by omega) (by omega)]
        · by_cases q2 : i = 135
          · subst q2; rw [t3_135, t3_135, e.1 135 (by omega) (by omega), e.1 140 (by omega) (by omega)]
          · by_cases q3 : i = 136
            · subst q3; rw [t3_136, t3_136, e.1 136 (by omega) (by omega), e.1 141 (by omega) (by omega)]
            · rw [t3_ne q1 q2 q3, t3_ne q1 q2 q3]; exact e.1 i a b
  · unfold bkG
    rw [sv_ne (by decide), sv_ne (by decide), sv_ne (by decide), sv_ne (by decide), bkR_ne (by decide) (by decide) (by decide), bkR_ne (by decide) (by decide) (by decide)]; exact e.2 j hj
theorem s_mbring {n : Nat} {v1 : Int32} {M T : St} {post : Int32 → St → Prop} (hn : n ≤ 10) (h2 : M.1 130 2 = nI n) (hb : ∀ r, r < n → M.1 138 r ≠ 0 → ∀ p, p < 256 → B01 (row M 139 r p) ∧ B01 (row M 140 r p)) (em : EqM M T)
    (hp : ∀ T', EqM (gsq bkD bkG M n).1 T' → FM T T' → post (v1 + 100 * nI (gsq bkD bkG M n).2) (sv T' 130 16 (T'.1 130 16 + nI (gsq bkD bkG M n).2))) : LW (fun kl (vl : Int32 × Int32) Tl => wb_X7_returned_45 v1 kl vl.1 vl.2 Tl post) (0, 0) T := by
  refine LW_acc n (fun r x U => x = nI (gsq bkD bkG M r).2 ∧ EqM (gsq bkD bkG M r).1 U ∧ FM T U) ⟨rfl, em, fun _ _ => rfl, rfl, rfl⟩ ?_
  rintro r x U hr ⟨rfl, hE, hF⟩ k hk
  have hb' : r < n → (gsq bkD bkG M r).1.1 138 r ≠ 0 → ∀ p, p < 256 → B01 (row U 139 r p) ∧ B01 (row U 140 r p) := fun hr h => by
    have := hb r hr (bk_138 r r h)
    unfold row at this ⊢
    rw [hE.1 139 (by omega) (by omega), hE.1 140 (by omega) (by omega), gsq_ne (a := 139) (fun r N => bkG_ne (by decide) (by decide) (by decide) (by decide) (by decide)), gsq_ne (a := 140) (fun r N => bkG_ne (by decide) (by decide) (by decide) (by decide) (by decide))]
    exact this
  obtain ⟨N, eN⟩ : ∃ N, N = (gsq bkD bkG M r).1 := ⟨_, rfl⟩
  rw [← eN] at hE hb'
  have hne : ∀ a, a ≠ 133 → a ≠ 134 → a ≠ 135 → a ≠ 136 → a ≠ 138 → N.1 a = M.1 a := fun a a1 a2 a3 a4 a5 => by rw [eN]; exact gsq_ne (fun r N => bkG_ne a1 a2 a3 a4 a5) r
  have u2 : U.1 130 2 = nI n := by rw [hE.2 2 (by omega), hne 130 (by decide) (by decide) (by decide) (by decide) (by decide)]; exact h2
  unfold wb_X7_returned_45
  show (U.1 130 2 ≤ nI r → _) ∧ _
  rw [u2, leN (by omega) (by omega)]
  refine ⟨fun q => ?_, fun q => ⟨vin (by omega) (by omega), ?_⟩⟩
  · have : r = n := by omega
    subst this
    exact hp U (by rw [← eN]; exact hE) hF
  · have hrn : r < n := by omega
    have stay : ¬ bkD r N → k (nI (gsq bkD bkG M r).2, nI r + 1) U := fun hd => hk _ _ hrn (by rw [gsq_n (by rw [← eN]; exact hd), ← eN]; exact ⟨rfl, hE, hF⟩)
    show (U.1 138 (nI r).toNatClampNeg = 0 → _) ∧ _
    rw [cl (by omega), hE.1 138 (by omega) (by omega), hE.1 133 (by omega) (by omega), hE.1 137 (by omega) (by omega)]
    refine ⟨fun z => stay (fun hd => hd.1 z), fun z => ⟨vin (by omega) (by omega), fun z1 => stay (fun hd => z1 hd.2.1), fun z1 => ⟨vin (by omega) (by omega), fun z2 => stay (fun hd => absurd (Int32.lt_of_lt_of_le hd.2.2.1 z2) (Int32.lt_irrefl)), fun z2 => ?_⟩⟩⟩
    have eas : (∀ k, k < 256 → U.1 140 (256 * r + k) = 0 ∨ U.1 141 (256 * r + k) = U.1 131 k) ↔ ∀ k, k < 256 → N.1 140 (256 * r + k) = 0 ∨ N.1 141 (256 * r + k) = N.1 131 k := by rw [hE.1 140 (by omega) (by omega), hE.1 141 (by omega) (by omega), hE.1 131 (by omega) (by omega)]
    refine s_isAsMade (by omega) (fun w => ⟨fun u => absurd u (by decide), fun _ => ?_⟩) (fun w => ⟨fun _ => stay (fun hd => w (eas.mpr hd.2.2.2)), fun u => absurd rfl u⟩)
    have hd : bkD r N := ⟨z, z1, Int32.not_le.mp z2, eas.mp w⟩
    show LW _ (256 * nI r) U
    rw [show (256 : Int32) * nI r = nI (256 * r) by rw [n_256, nI_mul]]
    refine LW_gen 256 (fun i v W => v = nI (256 * r + i) ∧ W = t3 U (cp3 (256 * r) (256 * r + i) (U.1 134) (U.1 139)) (cp3 (256 * r) (256 * r + i) (U.1 135) (U.1 140)) (cp3 (256 * r) (256 * r + i) (U.1 136) (U.1 141))) ⟨rfl, by rw [Nat.add_zero, cp3_0, cp3_0, cp3_0, t3_self]⟩ ?_
    rintro i v W hi ⟨rfl, rfl⟩ k2 hk2
    unfold wb_X7_returned_96
    show ((256 * nI r) + 256 ≤ nI (256 * r + i) → _) ∧ _
    rw [n_256, nI_mul, nI_add, leN (by omega) (by omega)]
    refine ⟨fun q2 => ⟨vin (by omega) (by omega), vin (by omega) (by omega), hk _ _ hrn ?_⟩, fun q2 => ?_⟩
    · have : i = 256 := by omega
      subst this
      rw [gsq_y (by rw [← eN]; exact hd), ← eN, cl (by omega), narZ1, narZ0]
      refine ⟨nI_1 _, bk_eq hE r, ⟨fun j hj => ?_, ?_, hF.2.2⟩⟩
      · rw [sv_ne (by omega), sv_ne (by omega), t3_ne (by omega) (by omega) (by omega)]; exact hF.1 j hj
      · rw [sv_ne (by decide), sv_ne (by decide), t3_ne (by decide) (by decide) (by decide)]; exact hF.2.1
    · obtain ⟨b1, b2⟩ := hb' hrn z i (by omega)
      unfold row at b1 b2
      refine ⟨vin (by omega) (by omega), vin (by omega) (by omega), vin (by omega) (by omega), vin (by omega) (by omega), ?_⟩
      rintro T48 rfl
      refine ⟨vin (by omega) (by omega), vin (by omega) (by omega), hk2 _ _ (by omega) ⟨nI_1 _, ?_⟩⟩
      rw [cl (by omega), t3_ne (a := 139) (by decide) (by decide) (by decide), narB b1, t3_s134, t3_ne (a := 140) (by decide) (by decide) (by decide), narB b2, t3_s135, t3_ne (a := 141) (by decide) (by decide) (by decide), t3_s136]
      rw [← Nat.add_assoc, ← cp3_s (old := U.1 134) (by omega), ← cp3_s (old := U.1 135) (by omega), ← cp3_s (old := U.1 136) (by omega)]
