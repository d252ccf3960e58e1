/-! make: routine by routine -/
noncomputable def gsq (D : Nat → St → Prop) (gv : Nat → St → St) (M : St) : Nat → St × Nat
  | 0 => (M, 0)
  | r + 1 => @ite _ (D r (gsq D gv M r).1) (Classical.propDecidable _) (gv r (gsq D gv M r).1, (gsq D gv M r).2 + 1) (gsq D gv M r)
theorem gsq_y {D : Nat → St → Prop} {gv : Nat → St → St} {M : St} {r : Nat} (h : D r (gsq D gv M r).1) : gsq D gv M (r + 1) = (gv r (gsq D gv M r).1, (gsq D gv M r).2 + 1) := @if_pos _ (Classical.propDecidable _) h _ _ _
theorem gsq_n {D : Nat → St → Prop} {gv : Nat → St → St} {M : St} {r : Nat} (h : ¬ D r (gsq D gv M r).1) : gsq D gv M (r + 1) = gsq D gv M r := @if_neg _ (Classical.propDecidable _) h _ _ _
theorem gsq_ne {D : Nat → St → Prop} {gv : Nat → St → St} {M : St} {a : Nat} (h : ∀ r N, (gv r N).1 a = N.1 a) : ∀ r, (gsq D gv M r).1.1 a = M.1 a
  | 0 => rfl
  | r + 1 => by
    by_cases e : D r (gsq D gv M r).1
    · rw [gsq_y e, h, gsq_ne h r]
    · rw [gsq_n e, gsq_ne h r]
theorem gsq_le {D : Nat → St → Prop} {gv : Nat → St → St} {M : St} : ∀ r, (gsq D gv M r).2 ≤ r
  | 0 => Nat.le_refl _
  | r + 1 => by
    have := gsq_le (D := D) (gv := gv) (M := M) r
    by_cases e : D r (gsq D gv M r).1
    · rw [gsq_y e]; show (gsq D gv M r).2 + 1 ≤ r + 1; omega
    · rw [gsq_n e]; omega
/-- the class's state while members are given -/
def GC (n : Nat) (mem bg : Nat → Nat) (C T N : St) : Prop := ∃ l : Nat → Bool, RM l l n mem bg T N ∧ (∀ i, i < 32 → bt (T.1 4 2) i = l i) ∧ By 5 mem T ∧ (∀ j, j ≠ 2 → j ≠ 3 → j ≠ 4 → (j < 27 ∨ 117 ≤ j) → T.1 j = C.1 j) ∧ (∀ j, j ≠ 2 → T.1 4 j = C.1 4 j) ∧ T.2 = C.2
def FM (N M : St) : Prop := (∀ j, j < 130 ∨ (142 ≤ j ∧ j ≤ 145) → M.1 j = N.1 j) ∧ M.1 130 = N.1 130 ∧ M.2 = N.2
theorem RM.fr2 {l : Nat → Bool} {n r : Nat} {mem bg : Nat → Nat} {T T' N N0 : St} (h : RM l l n mem bg T N) (hr : r < n) (hl : l r = false) (hF : Fr (cu T r) T T') (e : ∀ a, 130 ≤ a → a ≤ 141 → a ≠ 134 → a ≠ 135 → a ≠ 136 → N0.1 a = N.1 a) (er : ∀ a r', 134 ≤ a ∧ a ≤ 136 → r' ≠ r → ∀ p, p < 256 → row N0 a r' p = row N a r' p) : RM l l n mem bg T' N0 := by
  have hn := h.1.1
  have hor := cu_as (h.2.2.1 r (by omega))
  have er2 : ∀ a r', 139 ≤ a → a ≤ 141 → row N0 a r' = row N a r' := fun a r' h1 h2 => by unfold row; rw [e a (by omega) h2 (by omega) (by omega) (by omega)]
  have o27 : T'.1 (27 + 9 * r) = T.1 (27 + 9 * r) := hF.1 _ (by omega)
  have x := (h.2.2.2.2.2.2.2.2.2.1 r hr)
  have y := x.2.2 (by unfold drp; simp)
  refine h.one hl (by rw [hF.1 0 (by omega)]) ⟨hF.1 2 (by omega), hF.1 3 (by omega)⟩ (fun r' h1 h2 j j1 j2 => hF.1 j (by omega)) (fun _ => by unfold Ori; rw [o27]; exact h.2.2.1 r (by omega)) (by rw [o27]) (by rw [e 130 (by omega) (by omega) (by omega) (by omega) (by omega)]) (fun a ha => e a (by omega) (by omega) (by omega) (by omega) (by omega)) (fun r' _ => by rw [e 137 (by omega) (by omega) (by omega) (by omega) (by omega), e 138 (by omega) (by omega) (by omega) (by omega) (by omega)]; exact ⟨rfl, rfl⟩) (fun a r' ha hne p hp => ?_) (fun _ => ?_)
  · rcases ha with ha | ha
    · exact er a r' ha hne p hp
    · rw [er2 a r' ha.1 ha.2]
  · rw [e 137 (by omega) (by omega) (by omega) (by omega) (by omega), e 138 (by omega) (by omega) (by omega) (by omega) (by omega), o27, er2 139 r (by omega) (by omega), er2 140 r (by omega) (by omega), er2 141 r (by omega) (by omega)]
    refine ⟨x.1, y.1, y.2.1, fun z => ?_⟩
    have ea : asi T' r = asi T r := by unfold asi; rw [o27]
    rw [ea]
    exact (y.2.2 z).of (fun j j1 j2 => hF.1 j (by omega))
def mkD (mem bg : Nat → Nat) (r : Nat) (N : St) : Prop := N.1 133 r = 0 ∧ N.1 137 r < 3 ∧ Mk mem (bg r)
noncomputable def mkG (mem bg : Nat → Nat) (r : Nat) (N : St) : St := mkM mem (bg r) r N
theorem mkG_ne {mem bg : Nat → Nat} {r a : Nat} {N : St} (h : a ≠ 133) (h1 : a ≠ 134) (h2 : a ≠ 135) (h3 : a ≠ 136) : (mkG mem bg r N).1 a = N.1 a := by unfold mkG mkM; rw [sv_ne h, mkR_ne h1 h2 h3]
theorem rb_if {b : Bool} : B01 (if b then (1 : Int32) else 0) ∧ ((if b then (1 : Int32) else 0) = 1 ↔ b = true) := by cases b <;> exact ⟨by first | exact Or.inl rfl | exact Or.inr rfl, by decide⟩
/-- a member that was filled, and the model's rows -/
theorem MR.made {m c s r : Nat} {g mem : Nat → Nat} {T N : St} (hM : MO m c g mem T) (hset : ∀ p, Rch mem s p ↔ ∃ i, i < c ∧ g i = p) (hk : Mk mem s) (hB : By 131 mem N) : MR m T (row (mkR mem s r N) 134 r) (row (mkR mem s r N) 135 r) (row (mkR mem s r N) 136 r) := by
  have hg : ∀ i, i < c → g i < 256 := fun i hi => (hM.1.2.2.1 i hi).1
  refine ⟨c, g, mem, hM, fun p hp => ?_, fun p hp => ?_, fun p hp => ?_, fun i hi => hk.1 _ ((hset _).mpr ⟨i, hi, rfl⟩), fun i hi hh j hj e => hk.2.2 (g i) ((hset _).mpr ⟨i, hi, rfl⟩) hh ((hset _).mpr ⟨j, hj, e⟩)⟩
  · rw [(mkR_row hp).2.2]; exact hB p hp
  · rw [(mkR_row hp).1]
    refine ⟨rb_if.1, ?_⟩
    rw [rb_if.2, rb_iff, hset]
  · rw [(mkR_row hp).2.1]
    refine ⟨rb_if.1, ?_⟩
    rw [rb_if.2]
    unfold cvb
    rw [Bool.or_eq_true, Bool.and_eq_true, rb_iff, rb_iff, hset, hset]
    refine ⟨fun z => ?_, fun ⟨i, hi, z⟩ => ?_⟩
    · rcases z with ⟨i, hi, e⟩ | ⟨⟨i, hi, e⟩, z⟩
      · exact ⟨i, hi, Or.inl e.symm⟩
      · have := hg i hi
        exact ⟨i, hi, Or.inr ⟨by rw [e]; exact z, by omega⟩⟩
    · rcases z with z | ⟨z1, z2⟩
      · exact Or.inl ⟨i, hi, z.symm⟩
      · have := hg i hi
        exact Or.inr ⟨⟨i, hi, by omega⟩, by rw [show (p + 255) % 256 = g i by omega]; exact z1⟩
theorem s_make {n : Nat} {mem bg : Nat → Nat} {C M : St} {post : Int32 → St → Prop} (h0 : GC n mem bg C C M) (hp : ∀ T, GC n mem bg C T (gsq (mkD mem bg) (mkG mem bg) M n).1 → post (nI (gsq (mkD mem bg) (mkG mem bg) M n).2) (sv T 0 11 (T.1 0 11 + nI (gsq (mkD mem bg) (mkG mem bg) M n).2))) : wp_X6_make C post := by
  unfold wp_X6_make
  refine LW_acc n (fun r x T => x = nI (gsq (mkD mem bg) (mkG mem bg) M r).2 ∧ GC n mem bg C T (gsq (mkD mem bg) (mkG mem bg) M r).1) ⟨rfl, h0⟩ ?_
  rintro r x T hr ⟨rfl, hG⟩ k hk
  obtain ⟨l, hR, hL, hB, f1, f2, f3⟩ := id hG
  obtain ⟨N, eN⟩ : ∃ N, N = (gsq (mkD mem bg) (mkG mem bg) M r).1 := ⟨_, rfl⟩
  rw [← eN] at hR hG
  have hn := hR.1.1
  unfold wb_X6_make_4
  show (T.1 0 9 ≤ nI r → _) ∧ _
  rw [hR.1.2.1, leN (by omega) (by omega)]
  refine ⟨fun q => ?_, fun q => ⟨vin (by omega) (by omega), ?_⟩⟩
  · have : r = n := by omega
    subst this
    exact hp T (by rw [← eN]; exact hG)
  · rw [cl (by omega)]
    have hrn : r < n := by omega
    have hhas := hR.has hrn
    have hdr := ((hR.2.2.2.2.2.2.2.2.2.1 r hrn).2.2 (by unfold drp; simp)).1
    have stay : ∀ T', ¬ mkD mem bg r N → GC n mem bg C T' N → k (nI (gsq (mkD mem bg) (mkG mem bg) M r).2, nI r + 1) T' := fun T' hd hg => hk _ _ hrn (by rw [gsq_n (by rw [← eN]; exact hd), ← eN]; exact ⟨rfl, hg⟩)
    refine s_hasLive (fun z => ⟨fun w => absurd rfl w, fun _ => ?_⟩) (fun z => ⟨fun _ => stay T (fun hd => ?_) hG, fun w => absurd w (by decide)⟩)
    · rw [b_tst (by omega), hL r (by omega)] at z
      have h133 : N.1 133 r = 0 := Classical.byContradiction (fun w => by have := hhas.mp w; rw [z] at this; cases this)
      refine s_walked (fun z2 => ⟨fun w => absurd rfl w, fun _ => ?_⟩) (fun z2 => ⟨fun _ => stay T (fun hd => z2 (by rw [← hdr]; exact hd.2.1)) hG, fun w => absurd w (by decide)⟩)
      rw [(hR.2.2.2.1 r hrn).1]
      have hor := cu_as (hR.2.2.1 r (by omega))
      show wp_X3_fill (cu T r) 5 (nI (bg r)) T _
      have frm : ∀ T', Fr (cu T r) T T' → (∀ j, j ≠ 2 → j ≠ 3 → j ≠ 4 → (j < 27 ∨ 117 ≤ j) → T'.1 j = C.1 j) ∧ (∀ j, j ≠ 2 → T'.1 4 j = C.1 4 j) ∧ T'.2 = C.2 ∧ (∀ i, i < 32 → bt (T'.1 4 2) i = l i) ∧ By 5 mem T' := fun T' hF => ⟨fun j a b c d => by rw [hF.1 j (by omega)]; exact f1 j a b c d, fun j hj => by rw [hF.1 4 (by omega)]; exact f2 j hj, hF.2.trans f3, fun i hi => by rw [hF.1 4 (by omega)]; exact hL i hi, hB.fr (by omega) hF⟩
      refine s_mfill (hR.2.2.2.1 r hrn).2.2 (by omega) hB (fun c g T' hM hF hset hk' => ⟨fun w => absurd w (by decide), fun _ => ?_⟩) (fun T' hF hnk => ⟨fun _ => stay T' (fun hd => hnk hd.2.2) ?_, fun w => absurd rfl w⟩)
      · obtain ⟨t1, t2, t3, t4, t5⟩ := frm T' hF
        have ecu : cu T' r = cu T r := by unfold cu; rw [hF.1 _ (by omega)]
        have hR' : RM l l n mem bg T' (mkR mem (bg r) r N) := hR.fr2 hrn z hF (fun a a1 a2 a3 a4 a5 => mkR_ne a3 a4 a5) (fun a r' ha hne p hp => mkR_row_ne ha hne p hp)
        refine s_give hR' hrn z t4 (by rw [ecu]; exact MR.made hM hset hk' hR.2.1) (fun p hp _ => by rw [(mkR_row hp).2.2]; exact (hR.2.1 p hp).1) (fun C' r1 r2 r3 r4 r5 => hk _ _ hrn ?_)
        have hd : mkD mem bg r N := ⟨h133, by rw [hdr]; exact z2, hk'⟩
        rw [gsq_y (by rw [← eN]; exact hd), ← eN]
        refine ⟨nI_1 _, lon l r, r1, r2, fun p hp => by rw [r3 5 (by decide) (by decide) (by decide)]; exact t5 p hp, fun j a b c d => by rw [r3 j a b c]; exact t1 j a b c d, fun j hj => by rw [r4 j hj]; exact t2 j hj, r5.trans t3⟩
      · obtain ⟨t1, t2, t3, t4, t5⟩ := frm T' hF
        exact ⟨l, hR.fr2 hrn z hF (fun _ _ _ _ _ _ => rfl) (fun _ _ _ _ _ _ => rfl), t4, t5, t1, t2, t3⟩
    · rw [b_tst (by omega), hL r (by omega)] at z
      exact (hhas.mpr (by cases e : l r with
        | true => rfl
        | false => exact absurd e z)) hd.1
