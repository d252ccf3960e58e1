/-! a routine gets a member -/
theorem RM.one {l : Nat → Bool} {n r : Nat} {mem bg : Nat → Nat} {C C' M M0 : St} (h : RM l l n mem bg C M) (hl : l r = false) (e09 : C'.1 0 9 = C.1 0 9) (e23 : C'.1 2 = C.1 2 ∧ C'.1 3 = C.1 3) (ec : ∀ r', r' ≠ r → r' < 10 → ∀ j, 27 + 9 * r' ≤ j → j < 36 + 9 * r' → C'.1 j = C.1 j) (ho : r < 10 → Ori C' r) (e3 : C'.1 (27 + 9 * r) 3 = C.1 (27 + 9 * r) 3)
    (m2 : M0.1 130 2 = M.1 130 2) (mm : ∀ a, a = 131 ∨ a = 132 ∨ a = 133 → M0.1 a = M.1 a) (m78 : ∀ r', r' ≠ r → M0.1 137 r' = M.1 137 r' ∧ M0.1 138 r' = M.1 138 r') (er : ∀ a r', (134 ≤ a ∧ a ≤ 136) ∨ (139 ≤ a ∧ a ≤ 141) → r' ≠ r → ∀ p, p < 256 → row M0 a r' p = row M a r' p)
    (hx : r < n → B01 (M0.1 138 r) ∧ M0.1 137 r = C'.1 (27 + 9 * r) 4 ∧ M0.1 138 r = C'.1 (27 + 9 * r) 2 ∧ (M0.1 138 r = 1 → MR (asi C' r) C' (row M0 139 r) (row M0 140 r) (row M0 141 r))) : RM l l n mem bg C' M0 := by
  obtain ⟨⟨a1, a2, a3⟩, a4, a5, a6, a7, a8, a9, a10, a11, a12, a13, a14⟩ := h
  have hd : ∀ r', drp l l r' = false := fun r' => by unfold drp; simp
  have ne : ∀ r', l r' = true → r' ≠ r := fun r' z w => by rw [w, hl] at z; cases z
  have ecu : ∀ r', r' ≠ r → r' < 10 → cu C' r' = cu C r' ∧ asi C' r' = asi C r' := fun r' h1 h2 => by unfold cu asi; rw [ec r' h1 h2 _ (by omega) (by omega)]; exact ⟨rfl, rfl⟩
  have mrt : ∀ r' x (a b c : Nat → Int32), r' ≠ r → r' < 10 → MR (mb (27 + 9 * r') x) C a b c → MR (mb (27 + 9 * r') x) C' a b c := fun r' x a b c h1 h2 hm => hm.of (fun j j1 j2 => by have := mb_in r' x; exact ec r' h1 h2 j (by omega) (by omega))
  refine ⟨⟨a1, by rw [e09]; exact a2, by rw [m2]; exact a3⟩, fun p hp => by rw [mm 131 (by omega)]; exact a4 p hp, fun r' hr' => ?_, fun r' hr' => ?_, a7, a8, fun r' hr' => by rw [mm 133 (by omega)]; exact a9 r' hr', fun r' hr' hb => ?_, fun r' hr' hb p hp => ?_, fun r' hr' => ?_, fun p hp r' hr' => ?_, fun g hg r' hr' => ?_⟩
  · by_cases e : r' = r
    · subst e; exact ho hr'
    · unfold Ori; rw [ec r' e hr' _ (by omega) (by omega)]; exact a5 r' hr'
  · rw [mm 132 (by omega)]
    by_cases e : r' = r
    · subst e; rw [e3]; exact a6 r' hr'
    · rw [ec r' e (by omega) _ (by omega) (by omega)]; exact a6 r' hr'
  · have hn := ne r' hb
    rw [(ecu r' hn (by omega)).1]
    exact (mrt r' _ _ _ _ hn (by omega) (a10 r' hr' hb)).rows (fun p hp => ⟨er 134 r' (by omega) hn p hp, er 135 r' (by omega) hn p hp, er 136 r' (by omega) hn p hp⟩)
  · have hn := ne r' hb
    rw [er 135 r' (by omega) hn p hp, er 136 r' (by omega) hn p hp]; exact a11 r' hr' hb p hp
  · rw [hd]
    by_cases e : r' = r
    · subst e
      obtain ⟨x1, x2, x3, x4⟩ := hx hr'
      exact ⟨x1, fun z => (by cases z), fun _ => ⟨x2, x3, x4⟩⟩
    · have := a12 r' hr'
      rw [hd] at this
      rw [(m78 r' e).1, (m78 r' e).2, ec r' e (by omega) (27 + 9 * r') (by omega) (by omega), (ecu r' e (by omega)).2]
      exact ⟨this.1, fun z => (by cases z), fun z => ⟨(this.2.2 z).1, (this.2.2 z).2.1, fun w => (mrt r' _ _ _ _ e (by omega) ((this.2.2 z).2.2 w)).rows (fun p hp => ⟨er 139 r' (by omega) e p hp, er 140 r' (by omega) e p hp, er 141 r' (by omega) e p hp⟩)⟩⟩
  · rw [e23.1, a13 p hp r' hr']
    refine and_congr_right (fun _ => and_congr_right (fun hb => ?_))
    rw [er 135 r' (by omega) (ne r' hb) p hp]
  · rw [e23.2, a14 g hg r' hr']
    refine and_congr_right (fun _ => and_congr_right (fun hb => ?_))
    refine exists_congr (fun k => and_congr_right (fun hk => ?_))
    rw [er 135 r' (by omega) (ne r' hb) _ (by omega)]
def lon (l : Nat → Bool) (r i : Nat) : Bool := if i = r then true else l i
theorem s_give {l : Nat → Bool} {n r : Nat} {mem bg : Nat → Nat} {C M : St} {post : St → Prop} (h : RM l l n mem bg C M) (hr : r < n) (hl : l r = false) (hL : ∀ i, i < 32 → bt (C.1 4 2) i = l i) (hm : MR (cu C r) C (row M 134 r) (row M 135 r) (row M 136 r)) (hc : ∀ p, p < 256 → row M 135 r p = 1 → row M 136 r p = nI (mem p))
    (hp : ∀ C', RM (lon l r) (lon l r) n mem bg C' (sv M 133 r 1) → (∀ i, i < 32 → bt (C'.1 4 2) i = lon l r i) → (∀ j, j ≠ 2 → j ≠ 3 → j ≠ 4 → C'.1 j = C.1 j) → (∀ j, j ≠ 2 → C'.1 4 j = C.1 4 j) → C'.2 = C.2 → post C') : wp_X6_giveMember (nI r) C post := by
  have hn := h.1.1
  have hcov := h.cov
  unfold wp_X6_giveMember
  refine ⟨vin (by omega) (by omega), ?_⟩
  rw [cl (by omega)]
  obtain ⟨c, g, me, ⟨hH, hs, hv⟩, m1, m2, m3, m4, m5⟩ := id hm
  have hmb := mb_in r (C.1 (27 + 9 * r) 0)
  have hcu : cu C r = mb (27 + 9 * r) (C.1 (27 + 9 * r) 0) := rfl
  show wp_X1_mark (nI r) (cu C r) 1 C _
  refine s_mark (b := true) (kd := fun i => me (g i)) (by omega) (by omega) rfl hH (fun i hi => ⟨(hv i hi).1, by have := m4 i hi; omega⟩) (fun f2 f3 k2 k3 => ?_)
  obtain ⟨C1, e1⟩ : ∃ C1, C1 = sa (sa C 2 f2) 3 f3 := ⟨_, rfl⟩
  have c1o : ∀ i, i ≠ 2 → i ≠ 3 → C1.1 i = C.1 i := fun i h1 h2 => by rw [e1, sa_ne h2, sa_ne h1]
  rw [← e1]
  obtain ⟨C', e'⟩ : ∃ C', C' = sv C1 4 2 ((C1.1 4 2) ||| ((1 : Int32) <<< (nI r &&& 31))) := ⟨_, rfl⟩
  rw [← e']
  have all : ∀ j, j ≠ 2 → j ≠ 3 → j ≠ 4 → C'.1 j = C.1 j := fun j a b c => by rw [e', sv_ne c, c1o j a b]
  have c2 : C'.1 2 = f2 := by rw [e', sv_ne (by decide), e1, sa_ne (by decide), sa_eq]
  have c3 : C'.1 3 = f3 := by rw [e', sv_ne (by decide), e1, sa_eq]
  have m133 : ∀ j, j ≠ r → (sv M 133 r 1).1 133 j = M.1 133 j := fun j hj => sv_j hj
  have mne : ∀ a, a ≠ 133 → (sv M 133 r 1).1 a = M.1 a := fun a ha => sv_ne ha
  have erow : ∀ a r', a ≠ 133 → row (sv M 133 r 1) a r' = row M a r' := fun a r' ha => by unfold row; rw [mne a ha]
  have cov' := Cov.mark (b := true) (lm' := lon l r) (M' := sv M 133 r 1) (P := PlU g (fun i => me (g i)) c 0) hcov hn hr (fun p hp => by rw [erow 135 r (by decide)]; exact (MR.pl (m := 0) (fun i hi => (hH.2.2.1 i hi).1)).trans (m3 p hp).2.symm) (fun z => by rw [hl] at z; cases z) (fun i _ => erow 135 i (by decide)) (fun i => rfl) k2 k3
  obtain ⟨⟨a1, a2, a3⟩, a4, a5, a6, a7, a8, a9, a10, a11, a12, -⟩ := h
  have hlon : ∀ i, lon l r i = true → i ≠ r → l i = true := fun i z w => by unfold lon at z; rw [if_neg w] at z; exact z
  have ecu : ∀ r', r' < 10 → cu C' r' = cu C r' ∧ asi C' r' = asi C r' := fun r' hr' => by unfold cu asi; rw [all _ (by omega) (by omega) (by omega)]; exact ⟨rfl, rfl⟩
  have mrt : ∀ r' x (a b d : Nat → Int32), r' < 10 → MR (mb (27 + 9 * r') x) C a b d → MR (mb (27 + 9 * r') x) C' a b d := fun r' x a b d hr' hh => hh.of (fun j j1 j2 => by have := mb_in r' x; exact all j (by omega) (by omega) (by omega))
  refine hp C' ⟨⟨a1, by rw [all 0 (by decide) (by decide) (by decide)]; exact a2, by rw [mne 130 (by decide)]; exact a3⟩, fun p hp => by rw [mne 131 (by decide)]; exact a4 p hp, fun r' hr' => by unfold Ori; rw [all _ (by omega) (by omega) (by omega)]; exact a5 r' hr', fun r' hr' => by rw [all _ (by omega) (by omega) (by omega), mne 132 (by decide)]; exact a6 r' hr', fun _ z => z, fun i hi => ?_, fun r' hr' => ?_, fun r' hr' hb => ?_, fun r' hr' hb => ?_, fun r' hr' => ?_, by rw [c2, c3]; exact cov'⟩ (fun i hi => ?_) all (fun j hj => by rw [e', sv_j hj, c1o 4 (by decide) (by decide)]) (by rw [e', e1]; rfl)
  · by_cases e : i = r
    · rw [e]; exact hr
    · exact a8 i (hlon i hi e)
  · by_cases e : r' = r
    · subst e; rw [sv_k]; unfold lon; rw [if_pos rfl]; exact ⟨Or.inr rfl, fun _ => rfl, fun _ => rfl⟩
    · rw [m133 r' e]; unfold lon; rw [if_neg e]; exact a9 r' hr'
  · rw [erow 134 r' (by decide), erow 135 r' (by decide), erow 136 r' (by decide), (ecu r' (by omega)).1]
    by_cases e : r' = r
    · subst e; exact mrt r' _ _ _ _ (by omega) hm
    · exact mrt r' _ _ _ _ (by omega) (a10 r' hr' (hlon r' hb e))
  · rw [erow 135 r' (by decide), erow 136 r' (by decide)]
    by_cases e : r' = r
    · subst e; exact hc
    · exact a11 r' hr' (hlon r' hb e)
  · have hd : ∀ (l : Nat → Bool), drp l l r' = false := fun l => by unfold drp; simp
    have := a12 r' hr'
    rw [hd] at this ⊢
    rw [mne 137 (by decide), mne 138 (by decide), erow 139 r' (by decide), erow 140 r' (by decide), erow 141 r' (by decide), (ecu r' (by omega)).2, all _ (by omega) (by omega) (by omega)]
    refine ⟨this.1, fun z => (by cases z), fun z => ⟨(this.2.2 z).1, (this.2.2 z).2.1, fun w => mrt r' _ _ _ _ (by omega) ((this.2.2 z).2.2 w)⟩⟩
  · rw [e', sv_k, c1o 4 (by decide) (by decide), b_or, hL i hi, b_one (by omega) hi]
    unfold lon
    by_cases e : i = r
    · subst e; simp
    · simp [e]
/-! make -/
noncomputable def cvb (mem : Nat → Nat) (s p : Nat) : Bool := rb mem s p || (rb mem s ((p + 255) % 256) && hop (mem ((p + 255) % 256)))
/-- the model's rows of a routine that is made -/
noncomputable def mkR (mem : Nat → Nat) (s r : Nat) (M : St) : St :=
  sa (sa (sa M 134 (cp3 (256 * r) (256 * r + 256) (M.1 134) (fun k => if rb mem s (k - 256 * r) then 1 else 0))) 135 (cp3 (256 * r) (256 * r + 256) (M.1 135) (fun k => if cvb mem s (k - 256 * r) then 1 else 0))) 136 (cp3 (256 * r) (256 * r + 256) (M.1 136) (fun k => M.1 131 (k - 256 * r)))
noncomputable def mkM (mem : Nat → Nat) (s r : Nat) (M : St) : St := sv (mkR mem s r M) 133 r 1
theorem cp3_in {a n p : Nat} {old new : Nat → Int32} (h : p < n) : cp3 a (a + n) old new (a + p) = new (a + p) := if_pos (by omega)
theorem cp3_out {a n k : Nat} {old new : Nat → Int32} (h : k < a ∨ n ≤ k) : cp3 a n old new k = old k := if_neg (by omega)
theorem mkR_row {mem : Nat → Nat} {s r : Nat} {M : St} {p : Nat} (hp : p < 256) : row (mkR mem s r M) 134 r p = (if rb mem s p then 1 else 0) ∧ row (mkR mem s r M) 135 r p = (if cvb mem s p then 1 else 0) ∧ row (mkR mem s r M) 136 r p = M.1 131 p := by
  unfold row mkR
  refine ⟨?_, ?_, ?_⟩
  · rw [sa_ne (by decide), sa_ne (by decide), sa_eq, cp3_in hp, Nat.add_sub_cancel_left]
  · rw [sa_ne (by decide), sa_eq, cp3_in hp, Nat.add_sub_cancel_left]
  · rw [sa_eq, cp3_in hp, Nat.add_sub_cancel_left]
theorem mkR_ne {mem : Nat → Nat} {s r a : Nat} {M : St} (h1 : a ≠ 134) (h2 : a ≠ 135) (h3 : a ≠ 136) : (mkR mem s r M).1 a = M.1 a := by unfold mkR; rw [sa_ne h3, sa_ne h2, sa_ne h1]
theorem mkR_row_ne {mem : Nat → Nat} {s r r' : Nat} {M : St} {a : Nat} (ha : 134 ≤ a ∧ a ≤ 136) (h : r' ≠ r) : ∀ p, p < 256 → row (mkR mem s r M) a r' p = row M a r' p := fun p hp => by
  unfold row mkR
  rcases (show a = 134 ∨ a = 135 ∨ a = 136 by omega) with rfl | rfl | rfl
  · rw [sa_ne (by decide), sa_ne (by decide), sa_eq, cp3_out (by omega)]
  · rw [sa_ne (by decide), sa_eq, cp3_out (by omega)]
  · rw [sa_eq, cp3_out (by omega)]
