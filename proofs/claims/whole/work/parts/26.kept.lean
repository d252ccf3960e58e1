/-! kept memories, snapshots, counters; the relation between calls -/
def KC (nk fi : Nat) (kp : Nat → Nat → Nat) (C : St) : Prop := nk ≤ 8 ∧ fi < 9 ∧ C.1 7 2 = nI nk ∧ C.1 7 1 = nI fi ∧ ∀ k, k < nk → ∀ p, p < 256 → kp k p < 256 ∧ C.1 (9 + (fi + k) % 9) p = nI (kp k p)
def KM (nk : Nat) (kp : Nat → Nat → Nat) (M : St) : Prop := M.1 130 21 = nI nk ∧ ∀ k, k < nk → ∀ p, p < 256 → M.1 143 (256 * k + p) = nI (kp k p)
def SC (ns : Nat) (sn : Nat → Nat → Nat) (C : St) : Prop := ns ≤ 4 ∧ C.1 0 10 = nI ns ∧ ∀ k, k < ns → ∀ p, p < 256 → sn k p < 256 ∧ C.1 (19 + k) p = nI (sn k p)
def SM (ns : Nat) (sn : Nat → Nat → Nat) (M : St) : Prop := M.1 130 19 = nI ns ∧ ∀ k, k < ns → ∀ p, p < 256 → M.1 142 (256 * k + p) = nI (sn k p)
/-- counters, and what the latest run told; i calls so far -/
def Ct (i : Nat) (C M : St) : Prop :=
  C.1 0 11 = M.1 130 14 ∧ C.1 0 13 = M.1 130 16 ∧
  (M.1 145 0 = C.1 117 6 ∧ M.1 145 1 = C.1 117 7 ∧ M.1 145 2 = C.1 117 11 + C.1 117 12 ∧ M.1 145 3 = C.1 117 11 ∧ M.1 145 4 = C.1 117 12 ∧ M.1 145 5 = C.1 117 13 ∧ M.1 145 6 = C.1 117 8 ∧ M.1 145 7 = C.1 117 5 ∧ M.1 145 8 = C.1 117 14) ∧
  ∃ x y, x + y ≤ 400 * i ∧ C.1 0 14 = nI x ∧ C.1 0 15 = nI y ∧ M.2 130 17 = lN x ∧ M.2 130 18 = lN y
def Core (l : Nat → Bool) (n : Nat) (mem bg : Nat → Nat) (C M : St) : Prop := RM l l n mem bg C M ∧ DC l l C M ∧ (∀ i, i < 32 → bt (C.1 4 2) i = l i) ∧ By 5 mem C ∧ C.1 4 4 = M.1 130 13
def Rel (i : Nat) (C M : St) : Prop := ∃ (l : Nat → Bool) (n : Nat) (mem bg : Nat → Nat) (ns : Nat) (sn : Nat → Nat → Nat) (nk fi : Nat) (kp : Nat → Nat → Nat), Core l n mem bg C M ∧ KC nk fi kp C ∧ KM nk kp M ∧ SC ns sn C ∧ SM ns sn M ∧ Ct i C M
theorem KC.cg {nk fi : Nat} {kp : Nat → Nat → Nat} {C C' : St} (h : KC nk fi kp C) (e : ∀ i, i = 7 ∨ (9 ≤ i ∧ i ≤ 17) → C'.1 i = C.1 i) : KC nk fi kp C' := by
  obtain ⟨a, b, c, d, f⟩ := h
  exact ⟨a, b, by rw [e 7 (Or.inl rfl)]; exact c, by rw [e 7 (Or.inl rfl)]; exact d, fun k hk p hp => by rw [e _ (Or.inr (by omega))]; exact f k hk p hp⟩
theorem KM.cg {nk : Nat} {kp : Nat → Nat → Nat} {M M' : St} (h : KM nk kp M) (e : M'.1 143 = M.1 143) (e2 : M'.1 130 21 = M.1 130 21) : KM nk kp M' := ⟨by rw [e2]; exact h.1, by rw [e]; exact h.2⟩
theorem SC.cg {ns : Nat} {sn : Nat → Nat → Nat} {C C' : St} (h : SC ns sn C) (e : ∀ i, 19 ≤ i ∧ i ≤ 22 → C'.1 i = C.1 i) (e2 : C'.1 0 10 = C.1 0 10) : SC ns sn C' := ⟨h.1, by rw [e2]; exact h.2.1, fun k hk p hp => by have := h.1; rw [e _ (by omega)]; exact h.2.2 k hk p hp⟩
theorem SM.cg {ns : Nat} {sn : Nat → Nat → Nat} {M M' : St} (h : SM ns sn M) (e : M'.1 142 = M.1 142) (e2 : M'.1 130 19 = M.1 130 19) : SM ns sn M' := ⟨by rw [e2]; exact h.1, by rw [e]; exact h.2⟩
theorem Ct.cg {i i' : Nat} {C C' M M' : St} (h : Ct i C M) (hi : i ≤ i') (e0 : ∀ j, j = 11 ∨ j = 13 ∨ j = 14 ∨ j = 15 → C'.1 0 j = C.1 0 j) (e117 : C'.1 117 = C.1 117) (em : ∀ j, j = 14 ∨ j = 16 → M'.1 130 j = M.1 130 j) (e145 : M'.1 145 = M.1 145) (e2 : M'.2 130 = M.2 130) : Ct i' C' M' := by
  obtain ⟨a, b, c, x, y, d, e, f, g, h⟩ := h
  refine ⟨by rw [e0 11 (by omega), em 14 (by omega)]; exact a, by rw [e0 13 (by omega), em 16 (by omega)]; exact b, by rw [e117, e145]; exact c, x, y, by omega, by rw [e0 14 (by omega)]; exact e, by rw [e0 15 (by omega)]; exact f, by rw [e2]; exact g, by rw [e2]; exact h⟩
theorem Core.cg {l : Nat → Bool} {n : Nat} {mem bg : Nat → Nat} {C C' M M' : St} (h : Core l n mem bg C M) (e : ∀ i, (i = 2 ∨ i = 3 ∨ i = 4 ∨ i = 5 ∨ (27 ≤ i ∧ i < 117)) → C'.1 i = C.1 i) (e0 : C'.1 0 9 = C.1 0 9) (e12 : C'.1 0 12 = C.1 0 12) (em : EqM M M') : Core l n mem bg C' M' := by
  obtain ⟨a, b, c, d, f⟩ := h
  refine ⟨(a.cls e0 (fun i hi => e i (by omega))).mod em, ?_, fun i hi => by rw [e 4 (by omega)]; exact c i hi, fun p hp => by rw [e 5 (by omega)]; exact d p hp, by rw [e 4 (by omega), em.2 13 (by omega)]; exact f⟩
  unfold DC at b ⊢
  rw [em.2 15 (by omega), e12]; exact b
/-! Kept.note and keepNoted -/
def kpN (nk : Nat) (kp : Nat → Nat → Nat) (old : Nat → Nat) : Nat → Nat → Nat := fun k => if nk < 8 then (if k = nk then old else kp k) else (if k = 7 then old else kp (k + 1))
def nkN (nk : Nat) : Nat := if nk < 8 then nk + 1 else 8
def fiN (nk fi : Nat) : Nat := if nk < 8 then fi else (fi + 1) % 9
theorem rem9 {a : Nat} (h : a < 2 ^ 30) : nI a - nI a / 9 * 9 = nI (a % 9) := by rw [n_9]; exact pk_rem (by omega) (by omega) (by omega)
theorem s_note {nk fi : Nat} {kp : Nat → Nat → Nat} {C : St} {post : St → Prop} (h : KC nk fi kp C) (hp : post (sa C (9 + (fi + nk) % 9) (va_cpy (C.1 5) (C.1 (9 + (fi + nk) % 9)) 0 0 256))) : wp_X2_note 5 C post := by
  obtain ⟨a, b, c, d, -⟩ := h
  unfold wp_X2_note
  rw [c, d, nI_add, rem9 (by omega)]
  refine ⟨vin (Nat.mod_lt _ (by omega)) (by omega), ?_⟩
  rintro T2 rfl
  rw [cl (by omega)]
  exact hp
theorem s_beginKeeping {nk fi : Nat} {kp : Nat → Nat → Nat} {mem : Nat → Nat} {C : St} {post : St → Prop} (h : KC nk fi kp C) (hB : By 5 mem C)
    (hp : ∀ C' : St, (∀ i, i ≠ 4 → i ≠ 9 + (fi + nk) % 9 → C'.1 i = C.1 i) → (∀ j, j ≠ 3 → j ≠ 5 → C'.1 4 j = C.1 4 j) → C'.1 4 3 = C.1 4 2 → C'.1 4 5 = 0 → (∀ p, p < 256 → C'.1 (9 + (fi + nk) % 9) p = nI (mem p)) → KC nk fi kp C' → C'.2 = C.2 → post C') : wp_X6_beginKeeping C post := by
  unfold wp_X6_beginKeeping
  refine s_note h ?_
  unfold wp_X4_beginChanges
  obtain ⟨e, he⟩ : ∃ e, e = 9 + (fi + nk) % 9 := ⟨_, rfl⟩
  rw [← he]
  obtain ⟨f, hf⟩ : ∃ f, f = va_cpy (C.1 5) (C.1 e) 0 0 256 := ⟨_, rfl⟩
  rw [← hf]
  have x1 : ∀ i, i ≠ 4 → i ≠ e → (sv (sv (sa C e f) 4 5 0) 4 3 ((sv (sa C e f) 4 5 0).1 4 2)).1 i = C.1 i := fun i h1 h2 => by rw [sv_ne h1, sv_ne h1, sa_ne h2]
  refine hp _ (by rw [← he]; exact x1) (fun j h1 h2 => ?_) ?_ ?_ (fun p hp => ?_) ?_ rfl
  · rw [sv_j h1, sv_j h2, sa_ne (by omega)]
  · rw [sv_k, sv_j (by decide), sa_ne (by omega)]
  · rw [sv_j (by decide), sv_k]
  · rw [← he, sv_ne (by omega), sv_ne (by omega), sa_eq, hf, cpy256 hp]; exact (hB p hp).1
  · obtain ⟨a, b, c, d, g⟩ := h
    refine ⟨a, b, by rw [x1 7 (by decide) (by omega)]; exact c, by rw [x1 7 (by decide) (by omega)]; exact d, fun k hk p hp => ?_⟩
    rw [x1 _ (by omega) (by omega)]
    exact g k hk p hp
theorem s_keepNoted {nk fi : Nat} {kp : Nat → Nat → Nat} {old : Nat → Nat} {C : St} {post : St → Prop} (h : KC nk fi kp C) (ho : ∀ p, p < 256 → old p < 256 ∧ C.1 (9 + (fi + nk) % 9) p = nI (old p)) (hp : ∀ C', (∀ i, i ≠ 7 → C'.1 i = C.1 i) → KC (nkN nk) (fiN nk fi) (kpN nk kp old) C' → C'.2 = C.2 → post C') : wp_X2_keepNoted C post := by
  obtain ⟨a, b, c, d, g⟩ := h
  unfold wp_X2_keepNoted
  rw [c, n_8, leN (by omega) (by omega)]
  refine ⟨fun q => ?_, fun q => ?_⟩
  · rw [d, nI_1, rem9 (by omega)]
    refine hp _ (fun i hi => sv_ne hi) ⟨?_, ?_, ?_, ?_, fun k hk p hpp => ?_⟩ rfl
    · unfold nkN; split <;> omega
    · unfold fiN; split <;> omega
    · rw [sv_j (by decide), c]; unfold nkN; rw [if_neg (by omega), show nk = 8 by omega]
    · rw [sv_k]; unfold fiN; rw [if_neg (by omega)]
    · have hn8 : nk = 8 := by omega
      rw [sv_ne (by omega)]
      unfold nkN at hk
      rw [if_neg (by omega)] at hk
      unfold kpN fiN
      have h8 : ¬ nk < 8 := by omega
      rw [if_neg h8, if_neg h8]
      by_cases e : k = 7
      · rw [if_pos e, e]
        have := ho p hpp
        rw [hn8] at this
        rw [show ((fi + 1) % 9 + 7) % 9 = (fi + 8) % 9 by omega]
        exact this
      · rw [if_neg e, show ((fi + 1) % 9 + k) % 9 = (fi + (k + 1)) % 9 by omega]
        exact g (k + 1) (by omega) p hpp
  · rw [nI_1]
    refine hp _ (fun i hi => sv_ne hi) ⟨?_, ?_, ?_, ?_, fun k hk p hpp => ?_⟩ rfl
    · unfold nkN; split <;> omega
    · unfold fiN; split <;> omega
    · rw [sv_k]; unfold nkN; rw [if_pos (by omega)]
    · rw [sv_j (by decide), d]; unfold fiN; rw [if_pos (by omega)]
    · rw [sv_ne (by omega)]
      unfold nkN at hk
      rw [if_pos (by omega)] at hk
      unfold kpN fiN
      have h8 : nk < 8 := by omega
      rw [if_pos h8, if_pos h8]
      by_cases e : k = nk
      · rw [if_pos e, e]; exact ho p hpp
      · rw [if_neg e]; exact g k (by omega) p hpp
/-! the model's note and keep -/
theorem s_mnote {M : St} {post : St → Prop} (hp : ∀ f, (∀ p, p < 256 → f p = M.1 131 p) → post (sa M 144 f)) : wp_X7_note M post := by
  unfold wp_X7_note
  refine LW_cnt 256 (fun i T => ∃ f, T = sa M 144 f ∧ ∀ p, p < i → f p = M.1 131 p) ⟨M.1 144, by rw [sa_self], fun p hp => by omega⟩ ?_
  rintro i T hi ⟨f, rfl, hf⟩ k hk
  unfold wb_X7_note_2
  rw [n_256, leN (by omega) (by omega)]
  refine ⟨fun q => hp f (fun p hp => hf p (by omega)), fun q => ⟨vin (by omega) (by omega), vin (by omega) (by omega), ?_⟩⟩
  rw [cl (by omega), sv_sa, sa_ne (by decide)]
  refine hk _ (by omega) ⟨_, rfl, fun p hp => ?_⟩
  by_cases e : p = i
  · subst e; exact upd_k
  · rw [upd_j e]; exact hf p (by omega)
theorem s_mkeep {nk : Nat} {kp : Nat → Nat → Nat} {old : Nat → Nat} {M : St} {post : St → Prop} (hn : nk ≤ 8) (h : KM nk kp M) (ho : ∀ p, p < 256 → M.1 144 p = nI (old p)) (hp : ∀ M', (∀ i, i ≠ 130 → i ≠ 143 → M'.1 i = M.1 i) → (∀ j, j ≠ 21 → M'.1 130 j = M.1 130 j) → KM (nkN nk) (kpN nk kp old) M' → M'.2 = M.2 → post M') : wp_X7_keep M post := by
  -- the last part: a row is laid at place m, m then grows
  have last : ∀ (m : Nat) (N : St), m < 8 → N.1 130 21 = nI m → (∀ i, i ≠ 130 → i ≠ 143 → N.1 i = M.1 i) → (∀ j, j ≠ 21 → N.1 130 j = M.1 130 j) → N.2 = M.2 → (m + 1 = nkN nk) → (∀ k, k < m → ∀ p, p < 256 → N.1 143 (256 * k + p) = nI (kpN nk kp old k p)) → kpN nk kp old m = old → wj_X7_keep_50 N post := by
    intro m N hm e21 e1 e2 e3 e4 e5 e6
    unfold wj_X7_keep_50
    refine LW_cnt 256 (fun i T => ∃ f, T = sa N 143 f ∧ (∀ k, k < m → ∀ p, p < 256 → f (256 * k + p) = N.1 143 (256 * k + p)) ∧ ∀ p, p < i → f (256 * m + p) = nI (old p)) ⟨N.1 143, by rw [sa_self], fun _ _ _ _ => rfl, fun p hp => by omega⟩ ?_
    rintro i T hi ⟨f, rfl, hf1, hf2⟩ k hk
    unfold wb_X7_keep_52
    rw [n_256, leN (by omega) (by omega)]
    have g21 : (sa N 143 f).1 130 21 = nI m := by rw [sa_ne (by decide)]; exact e21
    rw [g21, nI_mul, nI_add]
    refine ⟨fun q => ?_, fun q => ⟨vin (by omega) (by omega), vin (by omega) (by omega), ?_⟩⟩
    · rw [nI_1]
      refine hp _ (fun i h1 h2 => by rw [sv_ne h1, sa_ne h2]; exact e1 i h1 h2) (fun j hj => by rw [sv_j hj, sa_ne (by decide)]; exact e2 j hj) ⟨by rw [sv_k, e4], fun k hk p hpp => ?_⟩ e3
      rw [sv_ne (by decide), sa_eq]
      by_cases e : k = m
      · subst e; rw [hf2 p (by omega), e6]
      · rw [hf1 k (by omega) p hpp]; exact e5 k (by omega) p hpp
    · rw [cl (by omega), cl (i := i) (by omega), sv_sa, sa_ne (by decide), e1 144 (by decide) (by decide), ho i (by omega)]
      refine hk _ (by omega) ⟨_, rfl, fun k hk p hpp => ?_, fun p hpp => ?_⟩
      · rw [upd_j (by omega)]; exact hf1 k hk p hpp
      · by_cases e : p = i
        · subst e; exact upd_k
        · rw [upd_j (by omega)]; exact hf2 p (by omega)
  unfold wp_X7_keep
  rw [h.1, n_8, nIe (by omega) (by omega)]
  refine ⟨fun q => ?_, fun q => ?_⟩
  · refine last nk M (by omega) h.1 (fun _ _ _ => rfl) (fun _ _ => rfl) rfl (by unfold nkN; rw [if_pos (by omega)]) (fun k hk p hpp => ?_) (by unfold kpN; rw [if_pos (by omega), if_pos rfl])
    unfold kpN
    rw [if_pos (by omega), if_neg (by omega)]
    exact h.2 k hk p hpp
  · refine LW_cnt 1792 (fun i T => ∃ f, T = sa M 143 f ∧ (∀ k, i ≤ k → f k = M.1 143 k) ∧ ∀ k, k < i → f k = M.1 143 (k + 256)) ⟨M.1 143, by rw [sa_self], fun _ _ => rfl, fun k hk => by omega⟩ ?_
    rintro i T hi ⟨f, rfl, hf1, hf2⟩ k hk
    unfold wb_X7_keep_11
    rw [n_1792, leN (by omega) (by omega)]
    refine ⟨fun q2 => ?_, fun q2 => ?_⟩
    · refine last 7 _ (by omega) ?_ (fun i h1 h2 => by rw [sv_ne h1, sa_ne h2]) (fun j hj => by rw [sv_j hj, sa_ne (by decide)]) rfl (by unfold nkN; rw [if_neg (by omega)]) (fun k hk p hpp => ?_) (by unfold kpN; rw [if_neg (by omega), if_pos rfl])
      · rw [sv_k, sa_ne (by decide), h.1, q]; decide
      · rw [sv_ne (by decide), sa_eq, hf2 _ (by omega)]
        unfold kpN
        rw [if_neg (by omega), if_neg (by omega), show 256 * k + p + 256 = 256 * (k + 1) + p by omega]
        exact h.2 (k + 1) (by omega) p hpp
    · rw [n_256, nI_add]
      refine ⟨vin (by omega) (by omega), vin (by omega) (by omega), ?_⟩
      rw [cl (by omega), cl (i := i + 256) (by omega), sv_sa, sa_eq]
      refine hk _ (by omega) ⟨_, rfl, fun k hk => ?_, fun k hk => ?_⟩
      · rw [upd_j (by omega)]; exact hf1 k (by omega)
      · by_cases e : k = i
        · subst e; rw [upd_k]; exact hf1 _ (by omega)
        · rw [upd_j e]; exact hf2 k (by omega)
