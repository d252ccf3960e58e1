/-! member, makeable -/
theorem cnt_img (N : Nat) : ∀ (c : Nat) (f : Nat → Bool) (φ : Nat → Nat) (P : Nat → Bool), (∀ i, i < c → f i = true → φ i < N) → (∀ i j, i < c → j < c → f i = true → f j = true → φ i = φ j → i = j) → (∀ p, p < N → (P p = true ↔ ∃ i, i < c ∧ f i = true ∧ φ i = p)) → cnt P N = cnt f c
  | 0, f, φ, P, _, _, h3 => cnt_0 (fun p hp => by
      cases e : P p with
      | false => rfl
      | true => obtain ⟨i, hi, -⟩ := (h3 p hp).mp e; omega)
  | c + 1, f, φ, P, h1, h2, h3 => by
    show cnt P N = cnt f c + (if f c then 1 else 0)
    cases e : f c with
    | false =>
      rw [cnt_img N c f φ P (fun i hi => h1 i (by omega)) (fun i j hi hj => h2 i j (by omega) (by omega)) (fun p hp => (h3 p hp).trans ⟨fun ⟨i, hi, a, b⟩ => ⟨i, (by
        rcases Nat.lt_or_ge i c with z | z
        · exact z
        · exfalso; rw [show i = c by omega, e] at a; cases a), a, b⟩, fun ⟨i, hi, a⟩ => ⟨i, by omega, a⟩⟩)]
      rfl
    | true =>
      rw [cnt_off (f := P) (a := φ c) ((h3 _ (h1 c (by omega) e)).mpr ⟨c, by omega, e, rfl⟩) (h1 c (by omega) e)]
      rw [cnt_img N c f φ (fun x => if x = φ c then false else P x) (fun i hi => h1 i (by omega)) (fun i j hi hj => h2 i j (by omega) (by omega)) (fun p hp => ?_)]
      · rfl
      · by_cases q : p = φ c
        · subst q
          rw [if_pos rfl]
          refine ⟨fun z => (by cases z), fun ⟨i, hi, a, b⟩ => ?_⟩
          have := h2 i c (by omega) (by omega) a e b
          omega
        · rw [if_neg q, h3 p hp]
          refine ⟨fun ⟨i, hi, a, b⟩ => ⟨i, ?_, a, b⟩, fun ⟨i, hi, a⟩ => ⟨i, by omega, a⟩⟩
          rcases Nat.lt_or_ge i c with z | z
          · exact z
          · exact absurd (by rw [← b, show i = c by omega]) q
theorem mr_cnt {m : Nat} {T : St} {hd inn md : Nat → Int32} (h : MR m T hd inn md) : ∃ c g mem, MO m c g mem T ∧ (∀ i, i < c → mem (g i) < 256) ∧ cnt (b1 hd) 256 = c ∧ cnt (b1 inn) 256 = c + cnt (fun i => hop (mem (g i))) c := by
  obtain ⟨c, g, mem, hM, h1, h2, h3, h4, h5⟩ := h
  have hg : ∀ i, i < c → g i < 256 := fun i hi => (hM.1.2.2.1 i hi).1
  have hj := hM.1.2.2.2
  refine ⟨c, g, mem, hM, fun i hi => by have := h4 i hi; omega, ?_, ?_⟩
  · refine cnt_all 256 c (b1 hd) g (fun i hi => ⟨hg i hi, ?_⟩) hj (fun p hp e => ?_)
    · unfold b1; exact decide_eq_true ((h2 _ (hg i hi)).2.mpr ⟨i, hi, rfl⟩)
    · unfold b1 at e; exact (h2 p hp).2.mp (of_decide_eq_true e)
  · have e1 : cnt (b1 hd) 256 = c := by
      refine cnt_all 256 c (b1 hd) g (fun i hi => ⟨hg i hi, ?_⟩) hj (fun p hp e => ?_)
      · unfold b1; exact decide_eq_true ((h2 _ (hg i hi)).2.mpr ⟨i, hi, rfl⟩)
      · unfold b1 at e; exact (h2 p hp).2.mp (of_decide_eq_true e)
    have hop1 : ∀ p, p < 256 → ((b1 inn p && !b1 hd p) = true ↔ ∃ i, i < c ∧ hop (mem (g i)) = true ∧ (g i + 1) % 256 = p) := fun p hp => by
      unfold b1
      rw [Bool.and_eq_true, decide_eq_true_iff, (h3 p hp).2]
      refine ⟨fun ⟨⟨i, hi, z⟩, w⟩ => ?_, fun ⟨i, hi, a, b⟩ => ⟨⟨i, hi, Or.inr ⟨a, b.symm⟩⟩, ?_⟩⟩
      · rcases z with z | ⟨z1, z2⟩
        · have : hd p = 1 := (h2 p hp).2.mpr ⟨i, hi, z.symm⟩
          simp [this] at w
        · exact ⟨i, hi, z1, z2.symm⟩
      · have : ¬ hd p = 1 := fun e => by
          obtain ⟨j, hj', e'⟩ := (h2 p hp).2.mp e
          exact h5 i hi a j hj' (e'.trans b.symm)
        simp [this]
    have e2 := cnt_img 256 c (fun i => hop (mem (g i))) (fun i => (g i + 1) % 256) (fun p => b1 inn p && !b1 hd p) (fun i hi _ => Nat.mod_lt _ (by omega)) (fun i j hi hj' _ _ e => hj i j hi hj' (by have := hg i hi; have := hg j hj'; omega)) hop1
    rw [← e2]
    conv => rhs; rw [← e1]
    refine cnt_add (fun p hp => ⟨?_, ?_⟩)
    · unfold b1
      have : hd p = 1 → inn p = 1 := fun e => by
        obtain ⟨i, hi, e'⟩ := (h2 p hp).2.mp e
        exact (h3 p hp).2.mpr ⟨i, hi, Or.inl e'.symm⟩
      by_cases e : hd p = 1
      · simp [e, this e]
      · simp [e]
    · cases b1 hd p <;> simp
theorem s_placeCount {m c : Nat} {g mem : Nat → Nat} {T : St} {post : Int32 → St → Prop} (hM : MO m c g mem T) (hk : ∀ i, i < c → mem (g i) < 256) (h : post (nI (c + cnt (fun i => hop (mem (g i))) c)) T) : wp_X3_placeCount m T post := by
  have hc := hM.1.2.1
  unfold wp_X3_placeCount
  refine LW_acc c (fun i x T' => T' = T ∧ x = nI (i + cnt (fun i => hop (mem (g i))) i)) ⟨rfl, rfl⟩ ?_
  rintro i x T' hi ⟨rfl, rfl⟩ k hkk
  unfold wb_X3_placeCount_4
  show (T'.1 m 3 ≤ nI i → _) ∧ _
  rw [hM.1.1, leN (by omega) (by omega)]
  refine ⟨fun q => by rw [show i = c by omega]; exact h, fun q => ⟨vin (by omega) (by omega), ?_⟩⟩
  rw [cl (by omega), (hM.2.2 i (by omega)).1]
  refine s_lengthOf (hk i (by omega)) (hkk _ _ (by omega) ⟨rfl, ?_⟩)
  rw [nI_add]
  refine congrArg nI ?_
  show i + cnt (fun i => hop (mem (g i))) i + ln (mem (g i)) = i + 1 + (cnt (fun i => hop (mem (g i))) i + (if hop (mem (g i)) then 1 else 0))
  unfold ln
  split <;> omega
theorem r_cases (x : Int32) {n : Nat} (hn : n ≤ 10) : (x < 0 ∨ nI n ≤ x) ∨ ∃ r, r < n ∧ x = nI r := by
  by_cases h0 : x < 0
  · exact Or.inl (Or.inl h0)
  · obtain ⟨j, hj, rfl⟩ := nI_of h0
    by_cases h1 : n ≤ j
    · exact Or.inl (Or.inr (nI_le h1 hj))
    · exact Or.inr ⟨j, by omega, rfl⟩
theorem s_noR_bad {x : Int32} {n : Nat} {T : St} {post : Int32 → St → Prop} (he : T.1 0 9 = nI n) (h : x < 0 ∨ nI n ≤ x) (hp : post 1 T) : wp_X6_isNoRoutine x T post := by
  unfold wp_X6_isNoRoutine
  rw [he]
  exact ⟨fun _ => hp, fun h0 => ⟨fun h1 => absurd h (fun z => z.elim h0 (fun w => absurd (Int32.lt_of_lt_of_le h1 w) (Int32.lt_irrefl))), fun _ => hp⟩⟩
theorem s_noR_ok {r n : Nat} {T : St} {post : Int32 → St → Prop} (he : T.1 0 9 = nI n) (hn : n ≤ 10) (h : r < n) (hp : post 0 T) : wp_X6_isNoRoutine (nI r) T post := by
  unfold wp_X6_isNoRoutine
  rw [he]
  exact ⟨fun z => absurd z (nI_pos (by omega)), fun _ => ⟨fun _ => hp, fun z => absurd (nI_lt h (by omega)) z⟩⟩
theorem s_isR_bad {x : Int32} {n : Nat} {T : St} {post : Int32 → St → Prop} (he : T.1 130 2 = nI n) (hn : n ≤ 10) (h : x < 0 ∨ nI n ≤ x) (hp : post 0 T) : wp_X7_isRoutine x T post := by
  unfold wp_X7_isRoutine
  rw [he]
  refine s_in_bad (h.imp id (fun w => ?_)) ⟨rfl, hp⟩
  rw [Int32.lt_iff_toInt_lt]
  rw [Int32.le_iff_toInt_le, nI_toInt (by omega)] at w
  rw [n_1, pk_sub_toInt (by omega) (by omega)]
  omega
theorem s_isR_ok {r n : Nat} {T : St} {post : Int32 → St → Prop} (he : T.1 130 2 = nI n) (hn : n ≤ 10) (h : r < n) (hp : post 1 T) : wp_X7_isRoutine (nI r) T post := by
  unfold wp_X7_isRoutine
  rw [he, n_1, pk_sub (by omega), n_0]
  exact s_in_ok (by omega) (by omega) (by omega) ⟨rfl, hp⟩
/-- countOf -/
theorem s_countOf {r : Nat} {b : Int32} {M : St} {post : Int32 → St → Prop} (hr : r < 10) (h0 : M.1 133 r = 0 → post 0 M) (h1 : M.1 133 r ≠ 0 → post (nI (cnt (fun p => decide (row M (if b = 0 then 135 else 134) r p ≠ 0)) 256)) M) : wp_X7_countOf (nI r) b M post := by
  unfold wp_X7_countOf
  rw [show (256 : Int32) * nI r = nI (256 * r) by rw [n_256, nI_mul]]
  obtain ⟨P, eP⟩ : ∃ P : Nat → Bool, P = fun p => decide (row M (if b = 0 then 135 else 134) r p ≠ 0) := ⟨_, rfl⟩
  rw [← eP] at h1
  refine LW_gen 256 (fun i v T => v.2 = nI (256 * r + i) ∧ T = M ∧ v.1 = nI (cnt P i) ∧ (M.1 133 r = 0 → i = 0)) ⟨rfl, rfl, rfl, fun _ => rfl⟩ ?_
  rintro i ⟨x, y⟩ T hi ⟨e2, rfl, e1, hz⟩ k hk
  have e2 : y = nI (256 * r + i) := e2
  have e1 : x = nI (cnt P i) := e1
  subst e2; subst e1
  have hcl := cnt_le P i
  unfold wb_X7_countOf_9
  show ((256 * nI r) + 256 ≤ nI (256 * r + i) → _) ∧ _
  rw [n_256, nI_mul, nI_add, leN (by omega) (by omega)]
  refine ⟨fun q => ?_, fun q => ⟨vin hr (by omega), ?_⟩⟩
  · have : i = 256 := by omega
    subst this
    exact h1 (fun z => by have := hz z; omega)
  · rw [cl (by omega)]
    refine ⟨fun e => ?_, fun e => ?_⟩
    · have := hz e
      subst this
      exact h0 e
    · have nx : ∀ (a : Nat), a = (if b = 0 then 135 else 134) → (T.1 a (256 * r + i) = 0 → k (nI (cnt P i) + 0, nI (256 * r + i) + 1) T) ∧ (¬ T.1 a (256 * r + i) = 0 → k (nI (cnt P i) + 1, nI (256 * r + i) + 1) T) := fun a ea => by
        have ep : P i = decide (T.1 a (256 * r + i) ≠ 0) := by rw [eP, ea]; rfl
        have hs : cnt P (i + 1) = cnt P i + (if P i then 1 else 0) := rfl
        refine ⟨fun z => hk _ _ (by omega) ⟨nI_1 _, rfl, ?_, fun w => absurd w e⟩, fun z => hk _ _ (by omega) ⟨nI_1 _, rfl, ?_, fun w => absurd w e⟩⟩
        · rw [hs, ep, z]; exact Int32.add_zero _
        · rw [hs, ep, decide_eq_true z]; exact nI_1 _
      rw [cl (by omega)]
      refine ⟨fun eb => ⟨vin (by omega) (by omega), nx 135 (by rw [if_pos eb])⟩, fun eb => ⟨vin (by omega) (by omega), nx 134 (by rw [if_neg eb])⟩⟩
theorem RM.count {lm l : Nat → Bool} {n : Nat} {mem bg : Nat → Nat} {C M : St} (h : RM lm l n mem bg C M) {r : Nat} (hr : r < n) (hl : lm r = true) (a : Nat) (ha : a = 134 ∨ a = 135) : cnt (fun p => decide (row M a r p ≠ 0)) 256 = cnt (b1 (row M a r)) 256 := cnt_congr (fun p hp => by
  unfold b1
  have := h.b01 hr hl p hp
  have hb : B01 (row M a r p) := by rcases ha with rfl | rfl; exact this.1; exact this.2
  rcases hb with z | z <;> rw [z] <;> decide)
theorem op_member {i : Nat} {a1 a2 : Int32} {T : St} (h : Rel i T T) : wp_X6_member a1 a2 T (fun r T1 => wp_X7_member a1 a2 T1 (fun r' T2 => r = r' ∧ Rel (i + 1) T2 T2)) := by
  obtain ⟨l, n, mem, bg, ns, sn, nk, fi, kp, h1, h2, h3, h4, h5, h6⟩ := id h
  have hn := h1.1.1.1
  unfold wp_X6_member
  rcases r_cases a1 hn with hb | ⟨r, hr, rfl⟩
  · refine s_noR_bad h1.1.1.2.1 hb ⟨fun z => absurd z (by decide), fun _ => ?_⟩
    unfold wp_X7_member
    exact s_isR_bad (by rw [sv_j (by decide)]; exact h1.1.1.2.2) hn hb ⟨fun z => absurd rfl z, fun _ => ⟨rfl, h.thr⟩⟩
  refine s_noR_ok h1.1.1.2.1 hn hr ⟨fun _ => ⟨vin (by omega) (by omega), ?_⟩, fun z => absurd rfl z⟩
  -- the model, up to its switch
  have mod : ∀ P : Int32 → St → Prop, (a2 = 0 → vp_in (nI r) 10 ∧ ((((sv T 130 0 0).1 133 (nI r).toNatClampNeg = 0 → P 0 (sv T 130 0 0)) ∧ (¬ (sv T 130 0 0).1 133 (nI r).toNatClampNeg = 0 → P 1 (sv T 130 0 0))))) ∧ (¬ a2 = 0 → (a2 = 1 → wp_X7_countOf (nI r) 1 (sv T 130 0 0) (fun r9 T8 => P r9 T8)) ∧ (¬ a2 = 1 → (a2 = 2 → wp_X7_countOf (nI r) 0 (sv T 130 0 0) (fun r12 T11 => P r12 T11)) ∧ (¬ a2 = 2 → (a2 = 3 → vp_in (nI r) 10 ∧ (P ((sv T 130 0 0).1 137 (nI r).toNatClampNeg) (sv T 130 0 0))) ∧ (¬ a2 = 3 → (a2 = 4 → vp_in (nI r) 10 ∧ (((sv T 130 0 0).1 137 (nI r).toNatClampNeg < 3 → P 0 (sv T 130 0 0)) ∧ (¬ (sv T 130 0 0).1 137 (nI r).toNatClampNeg < 3 → P 1 (sv T 130 0 0)))) ∧ (¬ a2 = 4 → (a2 = 5 → vp_in (nI r) 10 ∧ (((sv T 130 0 0).1 138 (nI r).toNatClampNeg = 0 → P 0 (sv T 130 0 0)) ∧ (¬ (sv T 130 0 0).1 138 (nI r).toNatClampNeg = 0 → P 1 (sv T 130 0 0)))) ∧ (¬ a2 = 5 → (a2 = 6 → vp_in (nI r) 10 ∧ (P ((sv T 130 0 0).1 132 (nI r).toNatClampNeg) (sv T 130 0 0))) ∧ (¬ a2 = 6 → P (-2) (sv T 130 0 0)))))))) → wp_X7_member (nI r) a2 T P := fun P hh => by
    unfold wp_X7_member
    exact s_isR_ok (by rw [sv_j (by decide)]; exact h1.1.1.2.2) hn hr ⟨fun _ => hh, fun z => absurd z (by decide)⟩
  have vr : vp_in (nI r) 10 := vin (by omega) (by omega)
  have sne : ∀ j, j ≠ 130 → (sv T 130 0 0).1 j = T.1 j := fun j hj => sv_ne hj
  have hhas := h1.1.has hr
  obtain ⟨x1, x2, x3⟩ := h1.1.2.2.2.2.2.2.2.2.2.1 r hr
  obtain ⟨y1, y2, y3⟩ := x3 (by unfold drp; simp)
  have hrow : ∀ a, a ≠ 130 → row (sv T 130 0 0) a r = row T a r := fun a ha => by unfold row; rw [sne a ha]
  -- both ways of the bit
  have key : ∀ (b : Bool) (v : Int32), l r = b → v = (if b then 1 else 0) → ((a2 = 0 → (v = 0 → wp_X7_member (nI r) a2 T (fun r' T2 => 0 = r' ∧ Rel (i + 1) T2 T2)) ∧ (¬ v = 0 → wp_X7_member (nI r) a2 T (fun r' T2 => 1 = r' ∧ Rel (i + 1) T2 T2))) ∧ (¬ a2 = 0 → (a2 = 1 → (v = 0 → wp_X7_member (nI r) a2 T (fun r' T2 => 0 = r' ∧ Rel (i + 1) T2 T2)) ∧ (¬ v = 0 → wp_X7_member (nI r) a2 T (fun r' T2 => T.1 (cu T r) 3 = r' ∧ Rel (i + 1) T2 T2))) ∧ (¬ a2 = 1 → (a2 = 2 → (v = 0 → wp_X7_member (nI r) a2 T (fun r' T2 => 0 = r' ∧ Rel (i + 1) T2 T2)) ∧ (¬ v = 0 → wp_X3_placeCount (cu T r) T (fun r14 T13 => wp_X7_member (nI r) a2 T13 (fun r' T2 => r14 = r' ∧ Rel (i + 1) T2 T2)))) ∧ (¬ a2 = 2 → (a2 = 3 → wp_X7_member (nI r) a2 T (fun r' T2 => T.1 (27 + 9 * r) 4 = r' ∧ Rel (i + 1) T2 T2)) ∧ (¬ a2 = 3 → (a2 = 4 → wp_X5_isWalkedForGood (27 + 9 * r) T (fun r18 T17 => (r18 = 0 → wp_X7_member (nI r) a2 T17 (fun r' T2 => 0 = r' ∧ Rel (i + 1) T2 T2)) ∧ (¬ r18 = 0 → wp_X7_member (nI r) a2 T17 (fun r' T2 => 1 = r' ∧ Rel (i + 1) T2 T2)))) ∧ (¬ a2 = 4 → (a2 = 5 → (T.1 (27 + 9 * r) 2 = 0 → wp_X7_member (nI r) a2 T (fun r' T2 => 0 = r' ∧ Rel (i + 1) T2 T2)) ∧ (¬ T.1 (27 + 9 * r) 2 = 0 → wp_X7_member (nI r) a2 T (fun r' T2 => 1 = r' ∧ Rel (i + 1) T2 T2))) ∧ (¬ a2 = 5 → (a2 = 6 → wp_X7_member (nI r) a2 T (fun r' T2 => T.1 (27 + 9 * r) 3 = r' ∧ Rel (i + 1) T2 T2)) ∧ (¬ a2 = 6 → wp_X7_member (nI r) a2 T (fun r' T2 => -2 = r' ∧ Rel (i + 1) T2 T2))))))))) := by
    intro b v hb hv
    have hv0 : v = 0 ↔ b = false := by rw [hv]; cases b <;> decide
    have h133 : T.1 133 r = 0 ↔ b = false := by
      cases b with
      | false => exact ⟨fun _ => rfl, fun _ => Classical.byContradiction (fun z => by have := hhas.mp z; rw [hb] at this; cases this)⟩
      | true => exact ⟨fun z => absurd z (hhas.mpr hb), fun z => by cases z⟩
    refine ⟨fun e0 => ⟨fun z => mod _ ⟨fun _ => ⟨vr, ?_⟩, fun w => absurd e0 w⟩, fun z => mod _ ⟨fun _ => ⟨vr, ?_⟩, fun w => absurd e0 w⟩⟩, fun n0 => ⟨fun e1 => ⟨fun z => mod _ ⟨fun w => absurd w n0, fun _ => ⟨fun _ => ?_, fun w => absurd e1 w⟩⟩, fun z => mod _ ⟨fun w => absurd w n0, fun _ => ⟨fun _ => ?_, fun w => absurd e1 w⟩⟩⟩, fun n1 => ⟨fun e2 => ⟨fun z => mod _ ⟨fun w => absurd w n0, fun _ => ⟨fun w => absurd w n1, fun _ => ⟨fun _ => ?_, fun w => absurd e2 w⟩⟩⟩, fun z => ?_⟩, fun n2 => ⟨fun e3 => mod _ ⟨fun w => absurd w n0, fun _ => ⟨fun w => absurd w n1, fun _ => ⟨fun w => absurd w n2, fun _ => ⟨fun _ => ⟨vr, ?_, h.thr⟩, fun w => absurd e3 w⟩⟩⟩⟩, fun n3 => ⟨fun e4 => ?_, fun n4 => ⟨fun e5 => ?_, fun n5 => ⟨fun e6 => mod _ ⟨fun w => absurd w n0, fun _ => ⟨fun w => absurd w n1, fun _ => ⟨fun w => absurd w n2, fun _ => ⟨fun w => absurd w n3, fun _ => ⟨fun w => absurd w n4, fun _ => ⟨fun w => absurd w n5, fun _ => ⟨fun _ => ⟨vr, ?_, h.thr⟩, fun w => absurd e6 w⟩⟩⟩⟩⟩⟩⟩, fun n6 => mod _ ⟨fun w => absurd w n0, fun _ => ⟨fun w => absurd w n1, fun _ => ⟨fun w => absurd w n2, fun _ => ⟨fun w => absurd w n3, fun _ => ⟨fun w => absurd w n4, fun _ => ⟨fun w => absurd w n5, fun _ => ⟨fun w => absurd w n6, fun _ => ⟨rfl, h.thr⟩⟩⟩⟩⟩⟩⟩⟩⟩⟩⟩⟩⟩⟩⟩
    · rw [cl (by omega), sne 133 (by decide)]
      exact ⟨fun _ => ⟨rfl, h.thr⟩, fun w => absurd (h133.mpr (hv0.mp z)) w⟩
    · rw [cl (by omega), sne 133 (by decide)]
      exact ⟨fun w => absurd (hv0.mpr (h133.mp w)) z, fun _ => ⟨rfl, h.thr⟩⟩
    · exact s_countOf (by omega) (fun _ => ⟨rfl, h.thr⟩) (fun w => absurd (by rw [sne 133 (by decide)]; exact h133.mpr (hv0.mp z)) w)
    · have hl : l r = true := by
        cases b with
        | false => exact absurd (hv0.mpr rfl) z
        | true => exact hb
      refine s_countOf (by omega) (fun w => absurd (by rw [← sne 133 (by decide)]; exact w) (hhas.mpr hl)) (fun _ => ⟨?_, h.thr⟩)
      rw [if_neg (by decide), hrow 134 (by decide), h1.1.count hr hl 134 (Or.inl rfl)]
      obtain ⟨c, g, me, hM, hk, c1, c2⟩ := mr_cnt (h1.1.2.2.2.2.2.2.2.1 r hr hl)
      rw [c1]; exact hM.1.1
    · exact s_countOf (by omega) (fun _ => ⟨rfl, h.thr⟩) (fun w => absurd (by rw [sne 133 (by decide)]; exact h133.mpr (hv0.mp z)) w)
    · have hl : l r = true := by
        cases b with
        | false => exact absurd (hv0.mpr rfl) z
        | true => exact hb
      obtain ⟨c, g, me, hM, hk, c1, c2⟩ := mr_cnt (h1.1.2.2.2.2.2.2.2.1 r hr hl)
      refine s_placeCount hM hk (mod _ ⟨fun w => absurd w n0, fun _ => ⟨fun w => absurd w n1, fun _ => ⟨fun _ => ?_, fun w => absurd e2 w⟩⟩⟩)
      refine s_countOf (by omega) (fun w => absurd (by rw [← sne 133 (by decide)]; exact w) (hhas.mpr hl)) (fun _ => ⟨?_, h.thr⟩)
      rw [if_pos rfl, hrow 135 (by decide), h1.1.count hr hl 135 (Or.inr rfl), c2]
    · rw [cl (by omega), sne 137 (by decide)]; exact y1.symm
    · have go : ∀ (x : Int32), (T.1 (27 + 9 * r) 4 < 3 → x = 0) → (¬ T.1 (27 + 9 * r) 4 < 3 → x = 1) → wp_X7_member (nI r) a2 T (fun r' T2 => x = r' ∧ Rel (i + 1) T2 T2) := fun x q1 q2 => mod _ ⟨fun w => absurd w n0, fun _ => ⟨fun w => absurd w n1, fun _ => ⟨fun w => absurd w n2, fun _ => ⟨fun w => absurd w n3, fun _ => ⟨fun _ => ⟨vr, by
        rw [cl (by omega), sne 137 (by decide), y1]
        exact ⟨fun z => ⟨q1 z, h.thr⟩, fun z => ⟨q2 z, h.thr⟩⟩⟩, fun w => absurd e4 w⟩⟩⟩⟩⟩
      exact ⟨fun z => ⟨fun _ => go 0 (fun _ => rfl) (fun w => absurd z w), fun w => absurd rfl w⟩, fun z => ⟨fun w => absurd w (by decide), fun _ => go 1 (fun w => absurd w z) (fun _ => rfl)⟩⟩
    · have go : ∀ (x : Int32), (T.1 (27 + 9 * r) 2 = 0 → x = 0) → (¬ T.1 (27 + 9 * r) 2 = 0 → x = 1) → wp_X7_member (nI r) a2 T (fun r' T2 => x = r' ∧ Rel (i + 1) T2 T2) := fun x q1 q2 => mod _ ⟨fun w => absurd w n0, fun _ => ⟨fun w => absurd w n1, fun _ => ⟨fun w => absurd w n2, fun _ => ⟨fun w => absurd w n3, fun _ => ⟨fun w => absurd w n4, fun _ => ⟨fun _ => ⟨vr, by
        rw [cl (by omega), sne 138 (by decide), y2]
        exact ⟨fun z => ⟨q1 z, h.thr⟩, fun z => ⟨q2 z, h.thr⟩⟩⟩, fun w => absurd e5 w⟩⟩⟩⟩⟩⟩
      exact ⟨fun z => go 0 (fun _ => rfl) (fun w => absurd z w), fun z => go 1 (fun w => absurd w z) (fun _ => rfl)⟩
    · rw [cl (by omega), sne 132 (by decide)]
      have := h1.1.2.2.2.1 r hr
      rw [this.1, this.2.1]
  rw [cl (by omega)]
  refine s_hasLive (fun z => ?_) (fun z => ?_)
  · rw [b_tst (by omega), h1.2.2.1 r (by omega)] at z
    exact key false 0 z rfl
  · rw [b_tst (by omega), h1.2.2.1 r (by omega)] at z
    exact key true 1 (by simpa using z) rfl
theorem op_makeable {i : Nat} {a1 : Int32} {T : St} (h : Rel i T T) : wp_X6_makeable a1 T (fun r T1 => wp_X7_makeable a1 T1 (fun r' T2 => r = r' ∧ Rel (i + 1) T2 T2)) := by
  obtain ⟨l, n, mem, bg, ns, sn, nk, fi, kp, h1, h2, h3, h4, h5, h6⟩ := id h
  have hn := h1.1.1.1
  unfold wp_X6_makeable
  rcases r_cases a1 hn with hb | ⟨r, hr, rfl⟩
  · refine s_noR_bad h1.1.1.2.1 hb ⟨fun z => absurd z (by decide), fun _ => ?_⟩
    unfold wp_X7_makeable
    exact s_isR_bad (by rw [sv_j (by decide)]; exact h1.1.1.2.2) hn hb ⟨fun z => absurd rfl z, fun _ => ⟨rfl, h.thr⟩⟩
  refine s_noR_ok h1.1.1.2.1 hn hr ⟨fun _ => ⟨vin (by omega) (by omega), ?_⟩, fun z => absurd rfl z⟩
  obtain ⟨g1, g2, g3⟩ := h1.1.2.2.2.1 r hr
  rw [cl (by omega), g1]
  -- behind fill, whatever it answered
  have mod : ∀ (x : Int32) (T' : St), Fr 23 T T' → (Mk mem (bg r) → x = 1) → (¬ Mk mem (bg r) → x = 0) → wp_X7_makeable (nI r) T' (fun r' T2 => x = r' ∧ Rel (i + 1) T2 T2) := fun x T' hF q1 q2 => by
    have eT : ∀ j, j < 23 ∨ 26 < j → T'.1 j = T.1 j := hF.1
    have hR' : Rel i T' T' := ⟨l, n, mem, bg, ns, sn, nk, fi, kp, h1.cg (fun j hj => eT j (by omega)) (by rw [eT 0 (by omega)]) (by rw [eT 0 (by omega)]) ⟨fun j a b => eT j (by omega), fun j _ => by rw [eT 130 (by omega)]⟩, h2.cg (fun j hj => eT j (by omega)), h3.cg (eT 143 (by omega)) (by rw [eT 130 (by omega)]), h4.cg (fun j hj => eT j (by omega)) (by rw [eT 0 (by omega)]), h5.cg (eT 142 (by omega)) (by rw [eT 130 (by omega)]), h6.cg (Nat.le_refl _) (fun j _ => by rw [eT 0 (by omega)]) (eT 117 (by omega)) (fun j _ => by rw [eT 130 (by omega)]) (eT 145 (by omega)) (by rw [hF.2])⟩
    unfold wp_X7_makeable
    refine s_isR_ok (n := n) (by rw [sv_j (by decide), eT 130 (by omega)]; exact h1.1.1.2.2) hn hr ⟨fun _ => ⟨vin (by omega) (by omega), ?_⟩, fun z => absurd z (by decide)⟩
    rw [cl (by omega), sv_ne (by decide), eT 132 (by omega), g2]
    have fin : ∀ hd gn cv, Rel (i + 1) (tri (sv T' 130 0 0) hd gn cv) (tri (sv T' 130 0 0) hd gn cv) := fun hd gn cv => hR'.same (fun j a b => by rw [tri_ne (by omega), sv_ne a]) (fun j a => by rw [tri_ne (by omega), sv_j a]) rfl
    refine s_find (mem := mem) g3 (fun p hp => by rw [sv_ne (by decide), eT 131 (by omega)]; exact h1.1.2.1 p hp) (fun hd gn cv hk _ => ⟨fun z => absurd z (by decide), fun _ => ⟨q1 hk, fin _ _ _⟩⟩) (fun hd gn cv hk => ⟨fun _ => ⟨q2 hk, fin _ _ _⟩, fun z => absurd rfl z⟩)
  refine s_mfill (mem := mem) g3 (by omega) h1.2.2.2.1 (fun c g T' _ hF _ hk => ⟨fun z => absurd z (by decide), fun _ => mod 1 T' hF (fun _ => rfl) (fun w => absurd hk w)⟩) (fun T' hF hk => ⟨fun _ => mod 0 T' hF (fun w => absurd w hk) (fun _ => rfl), fun z => absurd rfl z⟩)
