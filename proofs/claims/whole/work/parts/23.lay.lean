/-! the cover behind a mark; layDroppedAside -/
def Cov (lm : Nat → Bool) (n : Nat) (M : St) (f2 f3 : Nat → Int32) : Prop := (∀ p, p < 256 → ∀ r, r < 32 → (bt (f2 p) r = true ↔ r < n ∧ lm r = true ∧ row M 135 r p = 1)) ∧ ∀ g, g < 16 → ∀ r, r < 32 → (bt (f3 g) r = true ↔ r < n ∧ lm r = true ∧ ∃ k, k < 16 ∧ row M 135 r (16 * g + k) = 1)
theorem Cov.mark {lm lm' : Nat → Bool} {n r : Nat} {b : Bool} {M M' : St} {P : Nat → Prop} {f2 f3 g2 g3 : Nat → Int32} (h : Cov lm n M f2 f3) (hn : n ≤ 10) (hr : r < n) (hP : ∀ p, p < 256 → (P p ↔ row M' 135 r p = 1)) (hold : lm r = true → ∀ p, p < 256 → row M 135 r p = 1 → row M' 135 r p = 1) (hne : ∀ i, i ≠ r → row M' 135 i = row M 135 i) (hl : ∀ i, lm' i = if i = r then b else lm i)
    (h2 : MkB r b P 256 f2 g2) (h3 : MkB r b (fun y => ∃ p, p < 256 ∧ p / 16 = y ∧ P p) 16 f3 g3) : Cov lm' n M' g2 g3 := by
  refine ⟨fun p hp i hi => ?_, fun y hy i hi => ?_⟩
  · obtain ⟨a1, a2⟩ := h2 p hp i hi
    by_cases e : i = r
    · subst e
      rw [hl i, if_pos rfl]
      by_cases q : P p
      · rw [((a2 rfl).1 q)]
        exact ⟨fun z => ⟨hr, z, (hP p hp).mp q⟩, fun z => z.2.1⟩
      · rw [((a2 rfl).2 q)]
        refine ⟨fun z => ?_, fun z => absurd ((hP p hp).mpr z.2.2) q⟩
        obtain ⟨-, z2, z3⟩ := (h.1 p hp i hi).mp z
        exact absurd ((hP p hp).mpr (hold z2 p hp z3)) q
    · rw [a1 e, hl i, if_neg e, hne i e]; exact h.1 p hp i hi
  · obtain ⟨a1, a2⟩ := h3 y hy i hi
    by_cases e : i = r
    · subst e
      rw [hl i, if_pos rfl]
      by_cases q : ∃ p, p < 256 ∧ p / 16 = y ∧ P p
      · rw [((a2 rfl).1 q)]
        obtain ⟨p, hp, e, hPp⟩ := q
        exact ⟨fun z => ⟨hr, z, p % 16, by omega, by rw [show 16 * y + p % 16 = p by omega]; exact (hP p hp).mp hPp⟩, fun z => z.2.1⟩
      · rw [((a2 rfl).2 q)]
        refine ⟨fun z => ?_, fun ⟨_, _, k, hk, z⟩ => absurd ⟨16 * y + k, by omega, by omega, (hP _ (by omega)).mpr z⟩ q⟩
        obtain ⟨-, z2, k, hk, z3⟩ := (h.2 y hy i hi).mp z
        exact absurd ⟨16 * y + k, by omega, by omega, (hP _ (by omega)).mpr (hold z2 _ (by omega) z3)⟩ q
    · rw [a1 e, hl i, if_neg e, hne i e]; exact h.2 y hy i hi
theorem RM.cov {lm l : Nat → Bool} {n : Nat} {mem bg : Nat → Nat} {C M : St} (h : RM lm l n mem bg C M) : Cov lm n M (C.1 2) (C.1 3) := ⟨h.2.2.2.2.2.2.2.2.2.2.1, h.2.2.2.2.2.2.2.2.2.2.2⟩
theorem MR.of {m : Nat} {T T' : St} {a b c : Nat → Int32} (h : MR m T a b c) (e : ∀ j, m ≤ j → j ≤ m + 3 → T'.1 j = T.1 j) : MR m T' a b c := by
  obtain ⟨k, g, me, ⟨hH, hs, hv⟩, hr⟩ := h
  refine ⟨k, g, me, ⟨hH.of (by rw [e m (by omega) (by omega)]) (fun i _ => by rw [e (m + 1) (by omega) (by omega)]), hs, fun i hi => ?_⟩, hr⟩
  rw [e (m + 2) (by omega) (by omega), e (m + 3) (by omega) (by omega)]
  exact hv i hi
theorem MR.rows {m : Nat} {T : St} {a b c a' b' c' : Nat → Int32} (h : MR m T a b c) (e : ∀ p, p < 256 → a' p = a p ∧ b' p = b p ∧ c' p = c p) : MR m T a' b' c' := by
  obtain ⟨k, g, me, h1, h2, h3, h4, h5⟩ := h
  exact ⟨k, g, me, h1, fun p hp => by rw [(e p hp).2.2]; exact h2 p hp, fun p hp => by rw [(e p hp).1]; exact h3 p hp, fun p hp => by rw [(e p hp).2.1]; exact h4 p hp, h5⟩
theorem mb_in (r : Nat) (x : Int32) : mb (27 + 9 * r) x = 28 + 9 * r ∨ mb (27 + 9 * r) x = 32 + 9 * r := by unfold mb; split <;> omega
theorem cu_as {C : St} {r : Nat} (h : Ori C r) : (cu C r = 28 + 9 * r ∧ asi C r = 32 + 9 * r) ∨ (cu C r = 32 + 9 * r ∧ asi C r = 28 + 9 * r) := by
  unfold cu asi mb
  rcases h with ⟨h1, h2⟩ | ⟨h1, h2⟩
  · left; rw [h1, h2, if_pos rfl, if_neg (by decide)]; omega
  · right; rw [h1, h2, if_pos rfl, if_neg (by decide)]; omega
/-- the class's cells that these calls leave alone -/
def FC (C C' : St) : Prop := (∀ i, i ≠ 2 → i ≠ 3 → (i < 27 ∨ 117 ≤ i) → C'.1 i = C.1 i) ∧ C'.2 = C.2
theorem FC.rf {C : St} : FC C C := ⟨fun _ _ _ _ => rfl, rfl⟩
theorem FC.tr {C C' C'' : St} (h : FC C C') (h2 : FC C' C'') : FC C C'' := ⟨fun i a b c => (h2.1 i a b c).trans (h.1 i a b c), h2.2.trans h.2⟩
def hyb (lm l : Nat → Bool) (r i : Nat) : Bool := if i < r then l i else lm i
theorem hyb_s {lm l : Nat → Bool} {r : Nat} (i : Nat) : hyb lm l (r + 1) i = if i = r then l r else hyb lm l r i := by
  unfold hyb
  by_cases e : i = r
  · subst e; rw [if_pos (by omega), if_pos rfl]
  · rw [if_neg e]
    by_cases q : i < r
    · rw [if_pos q, if_pos (by omega)]
    · rw [if_neg q, if_neg (by omega)]
/-- one dropped member is laid aside -/
theorem lay_step {lm l : Nat → Bool} {n r : Nat} {mem bg : Nat → Nat} {C M : St} {post : St → Prop} (h : RM (hyb lm l r) l n mem bg C M) (hr : r < n) (h1 : lm r = true) (h2 : l r = false) (hp : ∀ C', RM (hyb lm l (r + 1)) l n mem bg C' M → FC C C' → post C') : wp_X1_mark (nI r) (cu C r) 0 C (fun C1 => vp_in (nI r) 10 ∧ (wp_X5_layAside (27 + 9 * r) C1 post)) := by
  have hn := h.1.1
  have hcov := h.cov
  have hlr : hyb lm l r r = true := by unfold hyb; rw [if_neg (by omega)]; exact h1
  obtain ⟨⟨a1, a2, a3⟩, a4, a5, a6, a7, a8, a9, a10, a11, a12, -⟩ := h
  obtain ⟨c, g, me, ⟨hH, hs, hv⟩, m1, m2, m3, m4, m5⟩ := id (a10 r hr hlr)
  have hor := cu_as (a5 r (by omega))
  refine s_mark (b := false) (kd := fun i => me (g i)) (by omega) (by omega) rfl hH (fun i hi => ⟨(hv i hi).1, by have := m4 i hi; omega⟩) (fun f2 f3 k2 k3 => ⟨vin (by omega) (by omega), ?_⟩)
  unfold wp_X5_layAside wp_X5_exchange
  obtain ⟨o, eo⟩ : ∃ o, o = 27 + 9 * r := ⟨_, rfl⟩
  rw [← eo]
  obtain ⟨C1, e1⟩ : ∃ C1, C1 = sa (sa C 2 f2) 3 f3 := ⟨_, rfl⟩
  have c1o : ∀ i, i ≠ 2 → i ≠ 3 → C1.1 i = C.1 i := fun i h1 h2 => by rw [e1, sa_ne h2, sa_ne h1]
  have c12 : C1.1 2 = f2 := by rw [e1, sa_ne (by decide), sa_eq]
  have c13 : C1.1 3 = f3 := by rw [e1, sa_eq]
  rw [← e1]
  obtain ⟨C', e'⟩ : ∃ C', C' = sv (sv (sv (sv C1 o 0 (C1.1 o 1)) o 1 (C1.1 o 0)) o 2 1) o 4 ((sv (sv (sv C1 o 0 (C1.1 o 1)) o 1 (C1.1 o 0)) o 2 1).1 o 4 + 1) := ⟨_, rfl⟩
  have e'o : ∀ i, i ≠ o → C'.1 i = C1.1 i := fun i hi => by rw [e', sv_ne hi, sv_ne hi, sv_ne hi, sv_ne hi]
  have f0 : C'.1 o 0 = C.1 o 1 := by rw [e', sv_j (by decide), sv_j (by decide), sv_j (by decide), sv_k, c1o o (by omega) (by omega)]
  have f1 : C'.1 o 1 = C.1 o 0 := by rw [e', sv_j (by decide), sv_j (by decide), sv_k, c1o o (by omega) (by omega)]
  have f2' : C'.1 o 2 = 1 := by rw [e', sv_j (by decide), sv_k]
  have f3' : C'.1 o 3 = C.1 o 3 := by rw [e', sv_j (by decide), sv_j (by decide), sv_j (by decide), sv_j (by decide), c1o o (by omega) (by omega)]
  have f4 : C'.1 o 4 = C.1 o 4 + 1 := by rw [e', sv_k, sv_j (by decide), sv_j (by decide), sv_j (by decide), c1o o (by omega) (by omega)]
  have all : ∀ i, i ≠ 2 → i ≠ 3 → i ≠ o → C'.1 i = C.1 i := fun i h1 h2 h3 => (e'o i h3).trans (c1o i h1 h2)
  have ecu : ∀ r', r' ≠ r → r' < 10 → cu C' r' = cu C r' ∧ asi C' r' = asi C r' := fun r' h1 h2 => by unfold cu asi; rw [all _ (by omega) (by omega) (by omega)]; exact ⟨rfl, rfl⟩
  have ecr : cu C' r = asi C r ∧ asi C' r = cu C r := by unfold cu asi; rw [← eo, f0, f1]; exact ⟨rfl, rfl⟩
  rw [← e']
  refine hp C' ⟨⟨a1, by rw [all 0 (by omega) (by omega) (by omega)]; exact a2, a3⟩, a4, fun r' hr' => ?_, fun r' hr' => ?_, fun i hi => ?_, fun i hi => ?_, a9, fun r' hr' hb => ?_, a11, fun r' hr' => ?_, ?_⟩ ⟨fun i h1 h2 h3 => all i h1 h2 (by omega), by rw [e']; show C1.2 = C.2; rw [e1]; rfl⟩
  · by_cases e : r' = r
    · subst e
      unfold Ori
      rw [← eo, f0, f1]
      rcases a5 r' hr' with z | z
      · rw [← eo] at z; exact Or.inr ⟨z.2, z.1⟩
      · rw [← eo] at z; exact Or.inl ⟨z.2, z.1⟩
    · unfold Ori; rw [all _ (by omega) (by omega) (by omega)]; exact a5 r' hr'
  · by_cases e : r' = r
    · subst e; rw [← eo, f3', eo]; exact a6 r' hr'
    · rw [all _ (by omega) (by omega) (by omega)]; exact a6 r' hr'
  · rw [hyb_s]
    by_cases e : i = r
    · subst e; rw [h2] at hi; cases hi
    · rw [if_neg e]; exact a7 i hi
  · rw [hyb_s] at hi
    by_cases e : i = r
    · rw [e]; exact hr
    · rw [if_neg e] at hi; exact a8 i hi
  · rw [hyb_s] at hb
    by_cases e : r' = r
    · rw [if_pos e, h2] at hb; cases hb
    · rw [if_neg e] at hb
      rw [(ecu r' e (by omega)).1]
      have := mb_in r' (C.1 (27 + 9 * r') 0)
      exact (a10 r' hr' hb).of (fun j j1 j2 => by unfold cu at j1 j2; exact all j (by omega) (by omega) (by omega))
  · obtain ⟨b1, b2, b3⟩ := a12 r' hr'
    by_cases e : r' = r
    · subst e
      have d1 : drp (hyb lm l r') l r' = true := by unfold drp; rw [hlr, h2]; rfl
      have d2 : drp (hyb lm l (r' + 1)) l r' = false := by unfold drp; rw [hyb_s, if_pos rfl, h2]; rfl
      obtain ⟨x1, x2, x3⟩ := b2 d1
      refine ⟨b1, fun z => (by rw [d2] at z; cases z), fun _ => ⟨by rw [← eo, f4, eo]; exact x1, by rw [← eo, f2']; exact x2, fun _ => ?_⟩⟩
      rw [ecr.2]
      exact ((a10 r' hr' hlr).of (fun j j1 j2 => all j (by omega) (by omega) (by omega))).rows x3
    · have dd : drp (hyb lm l (r + 1)) l r' = drp (hyb lm l r) l r' := by unfold drp; rw [hyb_s, if_neg e]
      rw [dd, all _ (by omega) (by omega) (by omega), (ecu r' e (by omega)).2]
      refine ⟨b1, b2, fun z => ⟨(b3 z).1, (b3 z).2.1, fun w => ?_⟩⟩
      have := mb_in r' (C.1 (27 + 9 * r') 1)
      exact ((b3 z).2.2 w).of (fun j j1 j2 => by unfold asi at j1 j2; exact all j (by omega) (by omega) (by omega))
  · have key := Cov.mark (b := false) (lm' := hyb lm l (r + 1)) (M' := M) (P := PlU g (fun i => me (g i)) c 0) hcov hn hr (fun p hp => (MR.pl (m := 0) (fun i hi => (hH.2.2.1 i hi).1)).trans (m3 p hp).2.symm) (fun _ _ _ z => z) (fun _ _ => rfl) (fun i => by rw [hyb_s, h2]) k2 k3
    have e2 : C'.1 2 = f2 := by rw [e'o 2 (by omega), c12]
    have e3 : C'.1 3 = f3 := by rw [e'o 3 (by omega), c13]
    rw [e2, e3]
    exact key
/-- layDroppedAside -/
theorem s_lay {lm l : Nat → Bool} {n : Nat} {mem bg : Nat → Nat} {C M : St} {post : Int32 → St → Prop} (h : RM lm l n mem bg C M) (hd : DC lm l C M) (hLm : ∀ i, i < 32 → bt (C.1 4 3) i = lm i) (hL : ∀ i, i < 32 → bt (C.1 4 2) i = l i)
    (hp : ∀ C1 : St, RM l l n mem bg (sv C1 0 12 (C1.1 0 12 + nI (cnt (drp lm l) 10))) M → DC l l (sv C1 0 12 (C1.1 0 12 + nI (cnt (drp lm l) 10))) M → FC C C1 → post (nI (cnt (drp lm l) 10)) (sv C1 0 12 (C1.1 0 12 + nI (cnt (drp lm l) 10)))) : wp_X6_layDroppedAside C post := by
  have hn := h.1.1
  have hsub := h.2.2.2.2.1
  have hlt := h.2.2.2.2.2.1
  unfold wp_X6_layDroppedAside
  refine LW_acc n (fun r x T => x = nI (cnt (drp lm l) r) ∧ RM (hyb lm l r) l n mem bg T M ∧ FC C T) ⟨rfl, by rw [show hyb lm l 0 = lm from funext (fun i => if_neg (by omega))]; exact h, FC.rf⟩ ?_
  rintro r x T hr ⟨rfl, hR, hF⟩ k hk
  have hcr := cnt_le (drp lm l) r
  unfold wb_X6_layDroppedAside_4
  show (T.1 0 9 ≤ nI r → _) ∧ _
  rw [hR.1.2.1, leN (by omega) (by omega)]
  refine ⟨fun q => ?_, fun q => ?_⟩
  · have : r = n := by omega
    subst this
    have ec : cnt (drp lm l) 10 = cnt (drp lm l) r := cnt_ext hn (fun _ _ => rfl) (fun i h1 _ => by
      unfold drp
      cases e : lm i with
      | false => rfl
      | true => have := hlt i e; omega)
    have eh : hyb lm l r = l := funext (fun i => by
      unfold hyb
      by_cases q : i < r
      · rw [if_pos q]
      · rw [if_neg q]
        cases e : lm i with
        | true => have := hlt i e; omega
        | false =>
          cases e2 : l i with
          | false => rfl
          | true => have := hsub i e2; rw [e] at this; cases this)
    rw [eh] at hR
    have := hp T (hR.cls (sv_j (by decide)) (fun i hi => sv_ne (by omega))) (by
      unfold DC
      rw [sv_k, hF.1 0 (by decide) (by decide) (by omega), hd, cnt_0 (f := drp l l) (fun i _ => by unfold drp; simp), Int32.add_assoc, nI_add]
      rfl) hF
    rw [ec] at this
    exact this
  · have hrn : r < n := by omega
    unfold wp_X4_wasDropped
    have e4 : T.1 4 = C.1 4 := hF.1 4 (by decide) (by decide) (by omega)
    have tst : ((((T.1 4 3) &&& ((T.1 4 2) ^^^ (-1))) >>> (nI r &&& 31)) &&& 1 = 0) ↔ drp lm l r = false := by
      rw [b_tst (by omega), b_and, b_not _ (by omega), e4, hLm r (by omega), hL r (by omega)]
      rfl
    have hh : ∀ b : Bool, drp lm l r = b → cnt (drp lm l) (r + 1) = cnt (drp lm l) r + (if b then 1 else 0) := fun b e => by
      show cnt (drp lm l) r + (if drp lm l r then 1 else 0) = _
      rw [e]
    refine ⟨fun e => ⟨fun _ => ?_, fun z => absurd rfl z⟩, fun e => ⟨fun z => absurd z (by decide), fun _ => ⟨vin (by omega) (by omega), ?_⟩⟩⟩
    · rw [tst] at e
      refine hk _ _ hrn ⟨by rw [hh false e]; rfl, ?_, hF⟩
      have eh : hyb lm l (r + 1) = hyb lm l r := funext (fun i => by
        rw [hyb_s]
        by_cases q : i = r
        · subst q
          rw [if_pos rfl]
          unfold hyb
          rw [if_neg (by omega)]
          unfold drp at e
          cases e1 : lm i with
          | true => rw [e1] at e; simpa using e
          | false =>
            cases e2 : l i with
            | false => rfl
            | true => have := hsub i e2; rw [e1] at this; cases this
        · rw [if_neg q])
      rw [eh]; exact hR
    · rw [tst] at e
      have e : drp lm l r = true := by simpa using e
      have e1 : lm r = true ∧ l r = false := by unfold drp at e; simpa using e
      rw [cl (by omega)]
      refine lay_step (post := fun T19 => k (nI (cnt (drp lm l) r) + 1, nI r + 1) T19) hR hrn e1.1 e1.2 (fun C' hR' hF' => ?_)
      exact hk _ _ hrn ⟨by rw [hh true e, nI_1]; rfl, hR', hF.tr hF'⟩
