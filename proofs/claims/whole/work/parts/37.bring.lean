/-! members come back -/
def AsI (c : Nat) (g me mem : Nat → Nat) (k : Nat) : Prop := mem (g k) = me (g k) ∧ (hop (me (g k)) = true → mem ((g k + 1) % 256) = me ((g k + 1) % 256))
theorem s_isAsIn {m q c : Nat} {g me mem : Nat → Nat} {T : St} {post : Int32 → St → Prop} (hM : MO m c g me T) (hme : ∀ p, p < 256 → me p < 256) (hB : By q mem T) (h1 : (∀ k, k < c → AsI c g me mem k) → post 1 T) (h0 : (¬ ∀ k, k < c → AsI c g me mem k) → post 0 T) : wp_X3_isAsIn m q T post := by
  obtain ⟨⟨e3, hc, ha, hj⟩, hs, hv⟩ := hM
  unfold wp_X3_isAsIn
  refine LW_cnt c (fun i T' => T' = T ∧ ∀ k, k < i → AsI c g me mem k) ⟨rfl, fun k hk => by omega⟩ ?_
  rintro i T' hi ⟨rfl, hJ⟩ k hk
  unfold wb_X3_isAsIn_2
  rw [e3, leN (by omega) (by omega)]
  refine ⟨fun w => h1 (fun k hk => hJ k (by omega)), fun w => ?_⟩
  have hic : i < c := by omega
  obtain ⟨a1, a2⟩ := ha i hic
  obtain ⟨v1, v2⟩ := hv i hic
  have hl : (g i + 1) % 256 < 256 := Nat.mod_lt _ (by omega)
  have hm1 := hme _ a1
  have hm2 := hme _ hl
  rw [cl (by omega), a2, cl (by omega), v1, (hB _ a1).1, nIe (by have := (hB _ a1).2; omega) (by omega)]
  refine ⟨vin (by omega) (by omega), vin a1 (by omega), vin (by omega) (by omega), fun e => ⟨vin (by omega) (by omega), ?_⟩, fun e => h0 (fun z => e (z i hic).1)⟩
  have go : AsI c g me mem i → k (nI i + 1) T' := fun z => hk _ hic ⟨rfl, fun k' hk' => by
    by_cases e' : k' = i
    · subst e'; exact z
    · exact hJ k' (by omega)⟩
  refine s_hasOperand hm1 (fun hh => ⟨fun z => absurd z (by decide), fun _ => ⟨vin (by omega) (by omega), ?_⟩⟩) (fun hh => ⟨fun _ => go ⟨e, fun z => by rw [hh] at z; cases z⟩, fun z => absurd rfl z⟩)
  rw [a2, show (nI (g i) + 1) &&& 255 = nI ((g i + 1) % 256) by rw [n_1]; exact nI_m255 (by omega), cl (by omega), v2, (hB _ hl).1, nIe (by have := (hB _ hl).2; omega) (by omega)]
  exact ⟨vin hl (by omega), vin (by omega) (by omega), fun z => go ⟨e, fun _ => z⟩, fun z => h0 (fun w => z ((w i hic).2 hh))⟩
def bkD (r : Nat) (N : St) : Prop := N.1 138 r ≠ 0 ∧ N.1 133 r = 0 ∧ N.1 137 r < 3 ∧ ∀ k, k < 256 → N.1 140 (256 * r + k) = 0 ∨ N.1 141 (256 * r + k) = N.1 131 k
def bkR (r : Nat) (N : St) : St := t3 N (cp3 (256 * r) (256 * r + 256) (N.1 134) (N.1 139)) (cp3 (256 * r) (256 * r + 256) (N.1 135) (N.1 140)) (cp3 (256 * r) (256 * r + 256) (N.1 136) (N.1 141))
def bkG (r : Nat) (N : St) : St := sv (sv (bkR r N) 138 r 0) 133 r 1
theorem bkR_ne {r a : Nat} {N : St} (h1 : a ≠ 134) (h2 : a ≠ 135) (h3 : a ≠ 136) : (bkR r N).1 a = N.1 a := t3_ne h1 h2 h3
theorem bkR_row {r p : Nat} {N : St} (hp : p < 256) : row (bkR r N) 134 r p = row N 139 r p ∧ row (bkR r N) 135 r p = row N 140 r p ∧ row (bkR r N) 136 r p = row N 141 r p := by
  unfold row bkR
  rw [t3_134, t3_135, t3_136, cp3_in hp, cp3_in hp, cp3_in hp]
  exact ⟨rfl, rfl, rfl⟩
theorem bkR_row_ne {r r' a p : Nat} {N : St} (ha : 134 ≤ a ∧ a ≤ 136) (h : r' ≠ r) (hp : p < 256) : row (bkR r N) a r' p = row N a r' p := by
  unfold row bkR
  rcases (show a = 134 ∨ a = 135 ∨ a = 136 by omega) with rfl | rfl | rfl
  · rw [t3_134, cp3_out (by omega)]
  · rw [t3_135, cp3_out (by omega)]
  · rw [t3_136, cp3_out (by omega)]
theorem bkG_ne {r a : Nat} {N : St} (h : a ≠ 133) (h1 : a ≠ 134) (h2 : a ≠ 135) (h3 : a ≠ 136) (h4 : a ≠ 138) : (bkG r N).1 a = N.1 a := by unfold bkG; rw [sv_ne h, sv_ne h4, bkR_ne h1 h2 h3]
/-- what lies aside is as the memory is -/
theorem MR.asin {m c : Nat} {g me mem : Nat → Nat} {hd inn md : Nat → Int32} (hm : ∀ p, p < 256 → mem p < 256) (hg : ∀ i, i < c → g i < 256) (m1 : ∀ p, p < 256 → md p = nI (me p) ∧ me p < 256) (m3 : ∀ p, p < 256 → B01 (inn p) ∧ (inn p = 1 ↔ ∃ i, i < c ∧ (p = g i ∨ (hop (me (g i)) = true ∧ p = (g i + 1) % 256)))) : (∀ k, k < c → AsI c g me mem k) ↔ ∀ p, p < 256 → inn p = 0 ∨ md p = nI (mem p) := by
  refine ⟨fun h p hp => ?_, fun h k hk => ?_⟩
  · rcases (m3 p hp).1 with z | z
    · exact Or.inl z
    · obtain ⟨i, hi, e⟩ := (m3 p hp).2.mp z
      right
      rw [(m1 p hp).1]
      rcases e with e | ⟨e1, e2⟩
      · rw [e, (h i hi).1]
      · rw [e2, (h i hi).2 e1]
  · have key : ∀ p, p < 256 → inn p = 1 → mem p = me p := fun p hp z => by
      rcases h p hp with w | w
      · rw [z] at w; exact absurd w (by decide)
      · rw [(m1 p hp).1] at w
        exact ((nIe (by have := (m1 p hp).2; omega) (by have := hm p hp; omega)).mp w).symm
    exact ⟨key _ (hg k hk) ((m3 _ (hg k hk)).2.mpr ⟨k, hk, Or.inl rfl⟩), fun hh => key _ (Nat.mod_lt _ (by omega)) ((m3 _ (Nat.mod_lt _ (by omega))).2.mpr ⟨k, hk, Or.inr ⟨hh, rfl⟩⟩)⟩
theorem s_bring {n : Nat} {mem bg : Nat → Nat} {C M : St} {post : Int32 → St → Prop} (h0 : GC n mem bg C C M) (hp : ∀ T, GC n mem bg C T (gsq bkD bkG M n).1 → post (nI (gsq bkD bkG M n).2) (sv T 0 13 (T.1 0 13 + nI (gsq bkD bkG M n).2))) : wp_X6_bringBack C post := by
  unfold wp_X6_bringBack
  refine LW_acc n (fun r x T => x = nI (gsq bkD bkG M r).2 ∧ GC n mem bg C T (gsq bkD bkG M r).1) ⟨rfl, h0⟩ ?_
  rintro r x T hr ⟨rfl, hG⟩ k hk
  obtain ⟨l, hR, hL, hB, f1, f2, f3⟩ := id hG
  obtain ⟨N, eN⟩ : ∃ N, N = (gsq bkD bkG M r).1 := ⟨_, rfl⟩
  rw [← eN] at hR hG
  have hn := hR.1.1
  unfold wb_X6_bringBack_4
  show (T.1 0 9 ≤ nI r → _) ∧ _
  rw [hR.1.2.1, leN (by omega) (by omega)]
  refine ⟨fun q => ?_, fun q => ?_⟩
  · have : r = n := by omega
    subst this
    exact hp T (by rw [← eN]; exact hG)
  · have hrn : r < n := by omega
    have hhas := hR.has hrn
    obtain ⟨x1, -, x3⟩ := hR.2.2.2.2.2.2.2.2.2.1 r hrn
    obtain ⟨y1, y2, y3⟩ := x3 (by unfold drp; simp)
    have stay : ¬ bkD r N → k (nI (gsq bkD bkG M r).2, nI r + 1) T := fun hd => hk _ _ hrn (by rw [gsq_n (by rw [← eN]; exact hd), ← eN]; exact ⟨rfl, hG⟩)
    refine s_hasLive (fun z => ⟨fun w => absurd rfl w, fun _ => ⟨vin (by omega) (by omega), ?_⟩⟩) (fun z => ⟨fun _ => stay (fun hd => ?_), fun w => absurd w (by decide)⟩)
    · rw [b_tst (by omega), hL r (by omega)] at z
      have h133 : N.1 133 r = 0 := Classical.byContradiction (fun w => by have := hhas.mp w; rw [z] at this; cases this)
      show wp_X5_canComeBack (27 + 9 * (nI r).toNatClampNeg) 5 T _
      rw [cl (by omega)]
      obtain ⟨o, eo⟩ : ∃ o, o = 27 + 9 * r := ⟨_, rfl⟩
      unfold wp_X5_canComeBack
      refine ⟨fun z2 => ⟨fun _ => stay (fun hd => hd.1 (by rw [y2]; exact z2)), fun w => absurd rfl w⟩, fun z2 => ?_⟩
      refine s_walked (fun z3 => ⟨fun w => absurd rfl w, fun _ => ?_⟩) (fun z3 => ⟨fun _ => ⟨fun _ => stay (fun hd => z3 (by rw [← y1]; exact hd.2.2.1)), fun w => absurd rfl w⟩, fun w => absurd w (by decide)⟩)
      have h138 : N.1 138 r = 1 := x1.ne.mp (by rw [y2]; exact z2)
      have hMR := y3 h138
      obtain ⟨c, g, me, hM, m1, m2, m3, m4, m5⟩ := id hMR
      have hg : ∀ i, i < c → g i < 256 := fun i hi => (hM.1.2.2.1 i hi).1
      have hmb : ∀ p, p < 256 → mem p < 256 := fun p hp => (hB p hp).2
      have hiff := MR.asin (m := 0) (hd := fun _ => 0) hmb hg m1 m3
      have hiff2 : (∀ p, p < 256 → row N 140 r p = 0 ∨ row N 141 r p = nI (mem p)) ↔ ∀ k, k < 256 → N.1 140 (256 * r + k) = 0 ∨ N.1 141 (256 * r + k) = N.1 131 k := ⟨fun h k hk => by rw [(hR.2.1 k hk).1]; exact h k hk, fun h k hk => by have := h k hk; rw [(hR.2.1 k hk).1] at this; exact this⟩
      show wp_X3_isAsIn (asi T r) 5 T _
      refine s_isAsIn hM (fun p hp => (m1 p hp).2) hB (fun hall => ⟨fun w => absurd w (by decide), fun _ => ⟨fun w => absurd w (by decide), fun _ => ⟨vin (by omega) (by omega), ?_⟩⟩⟩) (fun hno => ⟨fun _ => ⟨fun _ => stay (fun hd => hno (hiff.mpr (hiff2.mpr hd.2.2.2))), fun w => absurd rfl w⟩, fun w => absurd rfl w⟩)
      have hd : bkD r N := ⟨by rw [h138]; decide, h133, by rw [y1]; exact z3, hiff2.mp (hiff.mp hall)⟩
      unfold wp_X5_takeBack wp_X5_exchange
      rw [← eo]
      obtain ⟨C', e'⟩ : ∃ C', C' = sv (sv (sv T o 0 (T.1 o 1)) o 1 (T.1 o 0)) o 2 0 := ⟨_, rfl⟩
      show wp_X6_giveMember (nI r) (sv (sv (sv T o 0 (T.1 o 1)) o 1 (T.1 o 0)) o 2 0) _
      rw [← e']
      have all : ∀ j, j ≠ o → C'.1 j = T.1 j := fun j hj => by rw [e', sv_ne hj, sv_ne hj, sv_ne hj]
      have g0 : C'.1 o 0 = T.1 o 1 := by rw [e', sv_j (by decide), sv_j (by decide), sv_k]
      have g1 : C'.1 o 1 = T.1 o 0 := by rw [e', sv_j (by decide), sv_k]
      have g2 : C'.1 o 2 = 0 := by rw [e', sv_k]
      have gj : ∀ j, j ≠ 0 → j ≠ 1 → j ≠ 2 → C'.1 o j = T.1 o j := fun j a b c => by rw [e', sv_j c, sv_j b, sv_j a]
      have hor := cu_as (hR.2.2.1 r (by omega))
      have hor' := hR.2.2.1 r (by omega)
      have ecu : cu C' r = asi T r := by unfold cu asi; rw [← eo, g0]
      have erow : ∀ a r', a ≠ 138 → row (sv (bkR r N) 138 r 0) a r' = row (bkR r N) a r' := fun a r' ha => by unfold row; rw [sv_ne ha]
      have mne : ∀ a, a ≠ 134 → a ≠ 135 → a ≠ 136 → a ≠ 138 → (sv (bkR r N) 138 r 0).1 a = N.1 a := fun a a1 a2 a3 a4 => by rw [sv_ne a4, bkR_ne a1 a2 a3]
      have hR' : RM l l n mem bg C' (sv (bkR r N) 138 r 0) := by
        refine hR.one z (by rw [all 0 (by omega)]) ⟨all 2 (by omega), all 3 (by omega)⟩ (fun r' h1 h2 j j1 j2 => all j (by omega)) (fun _ => ?_) (by rw [← eo, gj 3 (by decide) (by decide) (by decide)]) (by rw [mne 130 (by decide) (by decide) (by decide) (by decide)]) (fun a ha => mne a (by omega) (by omega) (by omega) (by omega)) (fun r' hne => ⟨by rw [mne 137 (by decide) (by decide) (by decide) (by decide)], by rw [sv_j hne, bkR_ne (by decide) (by decide) (by decide)]⟩) (fun a r' ha hne p hp => ?_) (fun _ => ?_)
        · unfold Ori; rw [← eo, g0, g1, eo]
          rcases hor' with ⟨w1, w2⟩ | ⟨w1, w2⟩
          · exact Or.inr ⟨w2, w1⟩
          · exact Or.inl ⟨w2, w1⟩
        · rcases ha with ha | ha
          · rw [erow a r' (by omega)]; exact bkR_row_ne ha hne hp
          · unfold row; rw [mne a (by omega) (by omega) (by omega) (by omega)]
        · rw [sv_k, mne 137 (by decide) (by decide) (by decide) (by decide), ← eo, g2, gj 4 (by decide) (by decide) (by decide), eo]
          exact ⟨Or.inl rfl, y1, rfl, fun w => absurd w (by decide)⟩
      have hmr : MR (cu C' r) C' (row (sv (bkR r N) 138 r 0) 134 r) (row (sv (bkR r N) 138 r 0) 135 r) (row (sv (bkR r N) 138 r 0) 136 r) := by
        rw [ecu, erow 134 r (by decide), erow 135 r (by decide), erow 136 r (by decide)]
        exact (hMR.of (fun j j1 j2 => all j (by omega))).rows (fun p hp => bkR_row hp)
      refine s_give hR' hrn z (fun i hi => by rw [all 4 (by omega)]; exact hL i hi) hmr (fun p hp w => ?_) (fun C2 r1 r2 r3 r4 r5 => hk _ _ hrn ?_)
      · rw [erow 135 r (by decide), (bkR_row hp).2.1] at w
        rw [erow 136 r (by decide), (bkR_row hp).2.2]
        rcases (hiff.mp hall) p hp with u | u
        · rw [w] at u; exact absurd u (by decide)
        · exact u
      · rw [gsq_y (by rw [← eN]; exact hd), ← eN]
        refine ⟨nI_1 _, lon l r, r1, r2, fun p hp => by rw [r3 5 (by decide) (by decide) (by decide), all 5 (by omega)]; exact hB p hp, fun j a b c d => by rw [r3 j a b c, all j (by omega)]; exact f1 j a b c d, fun j hj => by rw [r4 j hj, all 4 (by omega)]; exact f2 j hj, by rw [r5, e']; exact f3⟩
    · rw [b_tst (by omega), hL r (by omega)] at z
      exact (hhas.mpr (by cases e : l r with
        | true => rfl
        | false => exact absurd e z)) hd.2.1
