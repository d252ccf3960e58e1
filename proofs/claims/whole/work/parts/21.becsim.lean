theorem cnt_add {f g h : Nat → Bool} : ∀ {n : Nat}, (∀ i, i < n → (h i = true ↔ f i = true ∨ g i = true) ∧ ¬ (f i = true ∧ g i = true)) → cnt h n = cnt f n + cnt g n
  | 0, _ => rfl
  | n + 1, hh => by
    show cnt h n + _ = (cnt f n + _) + (cnt g n + _)
    rw [cnt_add (n := n) (fun i hi => hh i (by omega))]
    obtain ⟨h1, h2⟩ := hh n (by omega)
    cases ef : f n <;> cases eg : g n <;> rw [ef, eg] at h1 h2 <;> simp at h1 h2 <;> simp [h1] <;> omega
theorem cnt_ext {f g : Nat → Bool} {n : Nat} : ∀ {m : Nat}, n ≤ m → (∀ i, i < n → g i = f i) → (∀ i, n ≤ i → i < m → g i = false) → cnt g m = cnt f n
  | 0, h, _, _ => by rw [show n = 0 by omega]; rfl
  | m + 1, h, h1, h2 => by
    by_cases e : n = m + 1
    · subst e; exact cnt_congr h1
    · show cnt g m + _ = _
      rw [cnt_ext (m := m) (by omega) h1 (fun i a b => h2 i a (by omega)), h2 m (by omega) (by omega)]
      rfl
/-- the class's cells that RM speaks of -/
theorem RM.cls {lm l : Nat → Bool} {n : Nat} {mem bg : Nat → Nat} {C C' M : St} (h : RM lm l n mem bg C M) (e0 : C'.1 0 9 = C.1 0 9) (e : ∀ i, (i = 2 ∨ i = 3 ∨ (27 ≤ i ∧ i < 117)) → C'.1 i = C.1 i) : RM lm l n mem bg C' M := by
  have mr : ∀ (m : Nat) (a b c : Nat → Int32), 27 ≤ m → m + 3 < 117 → MR m C a b c → MR m C' a b c := by
    rintro m a b c h1 h2 ⟨k, g, me, ⟨hH, hs, hv⟩, hr⟩
    refine ⟨k, g, me, ⟨hH.of (by rw [e m (by omega)]) (fun i _ => by rw [e (m + 1) (by omega)]), hs, fun i hi => ?_⟩, hr⟩
    rw [e (m + 2) (by omega), e (m + 3) (by omega)]
    exact hv i hi
  have mbb : ∀ (r : Nat) (x : Int32), r < 10 → 27 ≤ mb (27 + 9 * r) x ∧ mb (27 + 9 * r) x + 3 < 117 := fun r x hr => by unfold mb; split <;> omega
  obtain ⟨⟨a1, a2, a3⟩, a4, a5, a6, a7, a8, a9, a10, a11, a12, a13, a14⟩ := h
  have ecu : ∀ r, r < 10 → cu C' r = cu C r := fun r hr => by unfold cu; rw [e _ (by omega)]
  have eas : ∀ r, r < 10 → asi C' r = asi C r := fun r hr => by unfold asi; rw [e _ (by omega)]
  refine ⟨⟨a1, e0.trans a2, a3⟩, a4, fun r hr => ?_, fun r hr => ?_, a7, a8, a9, fun r hr hb => ?_, a11, fun r hr => ?_, fun p hp => ?_, fun g hg => ?_⟩
  · unfold Ori; rw [e _ (by omega)]; exact a5 r hr
  · rw [e _ (by omega)]; exact a6 r hr
  · rw [ecu r (by omega)]
    exact mr _ _ _ _ (mbb r _ (by omega)).1 (mbb r _ (by omega)).2 (a10 r hr hb)
  · rw [e _ (by omega), eas r (by omega)]
    obtain ⟨b1, b2, b3⟩ := a12 r hr
    refine ⟨b1, b2, fun hd => ?_⟩
    obtain ⟨c1, c2, c3⟩ := b3 hd
    exact ⟨c1, c2, fun hh => mr _ _ _ _ (mbb r _ (by omega)).1 (mbb r _ (by omega)).2 (c3 hh)⟩
  · rw [e 2 (by omega)]; exact a13 p hp
  · rw [e 3 (by omega)]; exact a14 g hg
theorem RM.b01 {lm l : Nat → Bool} {n : Nat} {mem bg : Nat → Nat} {C M : St} (h : RM lm l n mem bg C M) {r : Nat} (hr : r < n) (hb : lm r = true) : ∀ p, p < 256 → B01 (row M 134 r p) ∧ B01 (row M 135 r p) := fun p hp => by
  obtain ⟨c, g, me, -, -, h1, h2, -⟩ := h.2.2.2.2.2.2.2.1 r hr hb
  exact ⟨(h1 p hp).1, (h2 p hp).1⟩
theorem RM.has {lm l : Nat → Bool} {n : Nat} {mem bg : Nat → Nat} {C M : St} (h : RM lm l n mem bg C M) {r : Nat} (hr : r < n) : M.1 133 r ≠ 0 ↔ l r = true := by
  obtain ⟨h1, h2⟩ := h.2.2.2.2.2.2.1 r hr
  rw [← h2]; exact h1.ne
theorem rm_dq {lm l : Nat → Bool} {n p : Nat} {mem bg : Nat → Nat} {C M : St} (h : RM lm l n mem bg C M) (hp : p < 256) {r : Nat} (hr : r < n) : dq M p r = true ↔ l r = true ∧ bt (C.1 2 p) r = true := by
  have hn := h.1.1
  unfold dq
  rw [Bool.and_eq_true, decide_eq_true_iff, decide_eq_true_iff, h.has hr, (h.2.2.2.2.2.2.2.2.2.2.1 p hp r (by omega))]
  refine and_congr_right (fun hb => ?_)
  have hbm := h.2.2.2.2.1 r hb
  have := ((h.b01 hr hbm) p hp).2.ne
  exact ⟨fun z => ⟨hr, hbm, this.mp z⟩, fun z => this.mpr z.2.2⟩
theorem RM.lk {lm l : Nat → Bool} {n g : Nat} {L : Int32} {mem bg : Nat → Nat} {C M : St} (h : RM lm l n mem bg C M) (hL : ∀ i, i < 32 → bt L i = l i) (hg : g < 16) : Lk n g M ↔ ¬ C.1 3 g &&& L = 0 := by
  have hn := h.1.1
  rw [b_and0]
  refine ⟨fun ⟨r, hr, h1, k, hk, h2⟩ hz => ?_, fun hz => ?_⟩
  · have hb := (h.has hr).mp h1
    have hbm := h.2.2.2.2.1 r hb
    refine hz r (by omega) ⟨(h.2.2.2.2.2.2.2.2.2.2.2 g hg r (by omega)).mpr ⟨hr, hbm, k, hk, ?_⟩, by rw [hL r (by omega)]; exact hb⟩
    have := ((h.b01 hr hbm) (16 * g + k) (by omega)).2.ne
    refine this.mp ?_
    show M.1 135 (256 * r + (16 * g + k)) ≠ 0
    rw [← Nat.add_assoc]; exact h2
  · refine Classical.byContradiction (fun hl => hz (fun i hi ⟨z1, z2⟩ => hl ?_))
    obtain ⟨hr, hbm, k, hk, e⟩ := (h.2.2.2.2.2.2.2.2.2.2.2 g hg i hi).mp z1
    refine ⟨i, hr, (h.has hr).mpr (by rw [← hL i hi]; exact z2), k, hk, ?_⟩
    have e : M.1 135 (256 * i + (16 * g + k)) = 1 := e
    rw [← Nat.add_assoc] at e
    rw [e]; decide
def mu (mem : Nat → Nat) (p v : Nat) : Nat → Nat := fun q => if q = p then v else mem q
theorem mu_k {mem : Nat → Nat} {p v : Nat} : mu mem p v p = v := if_pos rfl
theorem mu_j {mem : Nat → Nat} {p v q : Nat} (h : q ≠ p) : mu mem p v q = mem q := if_neg h
theorem bt_lt {x : Int32} {i : Nat} (h : bt x i = true) : i < 32 := by
  rcases Nat.lt_or_ge i 32 with q | q
  · exact q
  · rw [b_big q] at h; cases h
def lof (l : Nat → Bool) (C : St) (p r : Nat) : Bool := l r && !bt (C.1 2 p) r
theorem RM.bec {lm l : Nat → Bool} {n p v : Nat} {mem bg : Nat → Nat} {C M : St} (h : RM lm l n mem bg C M) (hp : p < 256) (hv : v < 256) (lk : Int32) :
    RM lm (lof l C p) n (mu mem p v) bg C (bst (bec1 M p v lk) p n) ∧ cnt (dq M p) n = cnt (drp l (lof l C p)) 10 := by
  have hdq := fun r hr => rm_dq h hp (r := r) hr
  have hn := h.1.1
  obtain ⟨L', eL⟩ : ∃ L', L' = lof l C p := ⟨_, rfl⟩
  have hL' : ∀ r, L' r = (l r && !bt (C.1 2 p) r) := fun r => by rw [eL]; rfl
  obtain ⟨N, eN⟩ : ∃ N, N = bec1 M p v lk := ⟨_, rfl⟩
  have n131 : N.1 131 = upd (M.1 131) p (nI v) := by rw [eN]; unfold bec1; rw [sv_eq, sv_ne (by decide)]
  have n130 : ∀ j, j ≠ 13 → N.1 130 j = M.1 130 j := fun j hj => by rw [eN]; unfold bec1; rw [sv_ne (by decide), sv_j hj]
  have nne : ∀ i, i ≠ 130 → i ≠ 131 → N.1 i = M.1 i := fun i h1 h2 => by rw [eN]; unfold bec1; rw [sv_ne h2, sv_ne h1]
  have ndq : ∀ r, dq N p r = dq M p r := fun r => by unfold dq; rw [nne 133 (by decide) (by decide), nne 135 (by decide) (by decide)]
  -- bits of the new mask, by the model's word
  have hb1 : ∀ r, r < n → (L' r = true ↔ l r = true ∧ dq M p r = false) := fun r hr => by
    rw [hL' r, Bool.and_eq_true]
    refine and_congr_right (fun hb => ?_)
    cases e : dq M p r with
    | true => have := ((hdq r hr).mp e).2; simp [this]
    | false =>
      cases e2 : bt (C.1 2 p) r with
      | false => simp
      | true => rw [(hdq r hr).mpr ⟨hb, e2⟩] at e; cases e
  have hsub : ∀ i, L' i = true → l i = true := fun i hi => by
    rw [hL' i, Bool.and_eq_true] at hi
    exact hi.1
  obtain ⟨M', eM⟩ : ∃ M', M' = bst N p n := ⟨_, rfl⟩
  have mne : ∀ i, (i < 130 ∨ i = 132 ∨ (134 ≤ i ∧ i ≤ 136) ∨ 141 < i) → M'.1 i = M.1 i := fun i hi => by rw [eM, bst_ne (by omega), nne i (by omega) (by omega)]
  have m131 : M'.1 131 = upd (M.1 131) p (nI v) := by rw [eM, bst_ne (by omega), n131]
  have r134 : ∀ r, row M' 134 r = row M 134 r := fun r => by unfold row; rw [mne 134 (by omega)]
  have r135 : ∀ r, row M' 135 r = row M 135 r := fun r => by unfold row; rw [mne 135 (by omega)]
  have r136 : ∀ r, row M' 136 r = row M 136 r := fun r => by unfold row; rw [mne 136 (by omega)]
  rw [← eL, ← eN, ← eM]
  obtain ⟨⟨a1, a2, a3⟩, a4, a5, a6, a7, a8, a9, a10, a11, a12, a13, a14⟩ := h
  have hcnt : cnt (dq M p) n = cnt (drp l L') 10 := by
    refine (cnt_ext hn (fun r hr => ?_) (fun r h1 h2 => ?_)).symm
    · unfold drp
      cases e : dq M p r with
      | true =>
        have e1 := ((hdq r hr).mp e).1
        have e2 : L' r = false := by
          cases q : L' r with
          | false => rfl
          | true => have := ((hb1 r hr).mp q).2; rw [e] at this; cases this
        rw [e1, e2]; rfl
      | false =>
        cases q : l r with
        | false => rfl
        | true => rw [(hb1 r hr).mpr ⟨q, e⟩]; rfl
    · unfold drp
      cases q : l r with
      | false => rfl
      | true => have := a8 r (a7 r q); omega
  refine ⟨⟨⟨a1, a2, ?_⟩, fun q hq => ?_, a5, fun r hr => ?_, fun i hi => a7 i (hsub i hi), a8, fun r hr => ?_, fun r hr hb => ?_, fun r hr hb q hq e => ?_, fun r hr => ?_, fun q hq r hr => ?_, fun g hg r hr => ?_⟩, hcnt⟩
  · rw [eM, bst_130, upd_j (by decide), n130 2 (by decide)]; exact a3
  · rw [m131]
    by_cases e : q = p
    · subst e; rw [upd_k, mu_k]; exact ⟨rfl, hv⟩
    · rw [upd_j e, mu_j e]; exact a4 q hq
  · rw [mne 132 (by omega)]; exact a6 r hr
  · rw [eM, bst_133, ndq]
    rw [nne 133 (by decide) (by decide)]
    cases e : dq M p r with
    | true =>
      rw [if_pos ⟨hr, rfl⟩]
      refine ⟨Or.inl rfl, fun z => absurd z (by decide), fun z => ?_⟩
      have := ((hb1 r hr).mp z).2; rw [e] at this; cases this
    | false =>
      rw [if_neg (fun z => by cases z.2)]
      refine ⟨(a9 r hr).1, ?_⟩
      rw [(a9 r hr).2, hb1 r hr, e]
      simp
  · rw [r134, r135, r136]; exact a10 r hr hb
  · rw [r135] at e
    rw [r136]
    have hbl := hsub r hb
    by_cases eq : q = p
    · subst eq
      have hbm := a7 r hbl
      have := (hdq r hr).mpr ⟨hbl, (a13 q hp r (by omega)).mpr ⟨hr, hbm, e⟩⟩
      have h2 := ((hb1 r hr).mp hb).2
      rw [this] at h2; cases h2
    · rw [mu_j eq]; exact a11 r hr hbl q hq e
  · have e137 : M'.1 137 r = if dq M p r = true then M.1 137 r + 1 else M.1 137 r := by
      rw [eM, bst_137, ndq, nne 137 (by decide) (by decide)]
      cases e : dq M p r with
      | true => rw [if_pos ⟨hr, rfl⟩, if_pos rfl]
      | false => rw [if_neg (fun z => by cases z.2), if_neg (by decide)]
    have e138 : M'.1 138 r = if dq M p r = true then 1 else M.1 138 r := by
      rw [eM, bst_138, ndq, nne 138 (by decide) (by decide)]
      cases e : dq M p r with
      | true => rw [if_pos ⟨hr, rfl⟩, if_pos rfl]
      | false => rw [if_neg (fun z => by cases z.2), if_neg (by decide)]
    have big : ∀ a b, (∀ q, q < 256 → M'.1 a (256 * r + q) = if r < n ∧ dq N p r = true then N.1 b (256 * r + q) else N.1 a (256 * r + q)) → a ≠ 130 → a ≠ 131 → b ≠ 130 → b ≠ 131 → ∀ q, q < 256 → row M' a r q = if dq M p r = true then row M b r q else row M a r q := by
      intro a b hh h1 h2 h3 h4 q hq
      show M'.1 a (256 * r + q) = _
      rw [hh q hq, ndq, nne a h1 h2, nne b h3 h4]
      cases e : dq M p r with
      | true => rw [if_pos ⟨hr, rfl⟩, if_pos rfl]; rfl
      | false => rw [if_neg (fun z => by cases z.2), if_neg (by decide)]; rfl
    have e139 := big 139 134 (fun q hq => by rw [eM]; exact bst_139 n r q hq) (by decide) (by decide) (by decide) (by decide)
    have e140 := big 140 135 (fun q hq => by rw [eM]; exact bst_140 n r q hq) (by decide) (by decide) (by decide) (by decide)
    have e141 := big 141 136 (fun q hq => by rw [eM]; exact bst_141 n r q hq) (by decide) (by decide) (by decide) (by decide)
    obtain ⟨b1, b2, b3⟩ := a12 r hr
    cases e : dq M p r with
    | true =>
      rw [e137, e138]
      simp only [e, if_true] at e139 e140 e141 ⊢
      have hbl := ((hdq r hr).mp e).1
      have hd : drp lm l r = false := by unfold drp; rw [hbl]; simp
      have hd' : drp lm L' r = true := by
        unfold drp
        have : L' r = false := by
          cases q : L' r with
          | false => rfl
          | true => have := ((hb1 r hr).mp q).2; rw [e] at this; cases this
        rw [this, a7 r hbl]; rfl
      refine ⟨Or.inr rfl, fun _ => ⟨by rw [(b3 hd).1], trivial, fun q hq => ⟨?_, ?_, ?_⟩⟩, fun z => by rw [hd'] at z; cases z⟩
      · rw [r134]; exact e139 q hq
      · rw [r135]; exact e140 q hq
      · rw [r136]; exact e141 q hq
    | false =>
      rw [e137, e138]
      simp only [e, Bool.false_eq_true, if_false] at e139 e140 e141 ⊢
      have hdd : drp lm L' r = drp lm l r := by
        unfold drp
        congr 2
        cases q : l r with
        | true => exact (hb1 r hr).mpr ⟨q, e⟩
        | false =>
          cases q2 : L' r with
          | false => rfl
          | true => have := hsub r q2; rw [q] at this; cases this
      rw [hdd]
      refine ⟨b1, fun z => ⟨(b2 z).1, (b2 z).2.1, fun q hq => ?_⟩, fun z => ⟨(b3 z).1, (b3 z).2.1, fun w => ?_⟩⟩
      · rw [e139 q hq, e140 q hq, e141 q hq, r134, r135, r136]; exact (b2 z).2.2 q hq
      · obtain ⟨c, g, me, h1, h2, h3, h4, h5⟩ := (b3 z).2.2 w
        exact ⟨c, g, me, h1, fun q hq => by rw [e141 q hq]; exact h2 q hq, fun q hq => by rw [e139 q hq]; exact h3 q hq, fun q hq => by rw [e140 q hq]; exact h4 q hq, h5⟩
  · rw [r135]; exact a13 q hq r hr
  · rw [r135]; exact a14 g hg r hr
theorem drp_add {lm l l' : Nat → Bool} (h1 : ∀ i, l i = true → lm i = true) (h2 : ∀ i, l' i = true → l i = true) : cnt (drp lm l') 10 = cnt (drp lm l) 10 + cnt (drp l l') 10 := by
  refine cnt_add (fun i hi => ⟨?_, ?_⟩)
  · unfold drp
    cases q1 : lm i with
    | false =>
      cases q2 : l i with
      | false => simp
      | true => have := h1 i q2; rw [q1] at this; cases this
    | true =>
      cases q2 : l i with
      | false =>
        cases q3 : l' i with
        | false => simp
        | true => have := h2 i q3; rw [q2] at this; cases this
      | true => simp
  · unfold drp
    cases q2 : l i <;> simp
theorem lof_sub {l : Nat → Bool} {C : St} {p : Nat} : ∀ i, lof l C p i = true → l i = true := fun i h => by
  unfold lof at h
  rw [Bool.and_eq_true] at h
  exact h.1
theorem DC.bec {lm l : Nat → Bool} {n p v : Nat} {mem bg : Nat → Nat} {C M : St} (h : RM lm l n mem bg C M) (hd : DC lm l C M) (hp : p < 256) (hv : v < 256) (lk : Int32) : DC lm (lof l C p) C (bst (bec1 M p v lk) p n) := by
  unfold DC
  rw [bst_130, upd_k, show (bec1 M p v lk).1 130 15 = M.1 130 15 by unfold bec1; rw [sv_ne (by decide), sv_j (by decide)], hd, cnt_congr (f := dq (bec1 M p v lk) p) (g := dq M p) (fun i _ => by unfold dq bec1; rw [sv_ne (by decide), sv_ne (by decide), sv_ne (by decide), sv_ne (by decide)]), (h.bec hp hv lk).2, Int32.add_assoc, nI_add, drp_add h.2.2.2.2.1 lof_sub]
