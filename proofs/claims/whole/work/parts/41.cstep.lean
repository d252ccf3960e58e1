/-! the class's step -/
def Og (o m w : Nat) : Prop := mo o = m ∧ wi o = w ∧ ((o = 117 ∧ m = 4 ∧ w = 118) ∨ (o = 120 ∧ m = 121 ∧ w = 123) ∨ (o = 125 ∧ m = 126 ∧ w = 128))
theorem og117 : Og 117 4 118 := ⟨rfl, rfl, Or.inl ⟨rfl, rfl, rfl⟩⟩
theorem og120 : Og 120 121 123 := ⟨rfl, rfl, Or.inr (Or.inl ⟨rfl, rfl, rfl⟩)⟩
theorem og125 : Og 125 126 128 := ⟨rfl, rfl, Or.inr (Or.inr ⟨rfl, rfl, rfl⟩)⟩
def RC (o m w : Nat) (s : Ab) (T : St) : Prop := T.1 o 4 = nI (aD s) ∧ T.1 o 5 = nI (aX s) ∧ T.1 o 6 = aA s ∧ T.1 o 7 = aB s ∧ T.1 o 8 = nI (aP s) ∧ T.1 o 15 = aF s ∧ (∀ j, j < aD s → T.1 w j = nI (aW s j) ∧ T.1 (w + 1) j = nI (aR s j)) ∧ By (m + 1) (aM s) T ∧ T.1 o 11 + T.1 o 12 = nI (aC s)
def Off (o w : Nat) (T T' : St) : Prop := (∀ j, j ≠ o → j ≠ w → j ≠ w + 1 → T'.1 j = T.1 j) ∧ T'.2 = T.2
theorem Off.rf {o w : Nat} {T : St} : Off o w T T := ⟨fun _ _ _ _ => rfl, rfl⟩
theorem Off.tr {o w : Nat} {T T' T'' : St} (h : Off o w T T') (h2 : Off o w T' T'') : Off o w T T'' := ⟨fun j a b c => (h2.1 j a b c).trans (h.1 j a b c), h2.2.trans h.2⟩
theorem Off.sv {o w k : Nat} {v : Int32} {T : St} : Off o w T (sv T o k v) := ⟨fun _ h _ _ => sv_ne h, rfl⟩
def LV (L : Int32) (mem : Nat → Nat) (T : St) : Prop := ∀ r, r < 10 → bt L r = true → ∃ c g me, MO (cu T r) c g me T ∧ (∀ p, p < 256 → me p < 256) ∧ ∀ i, i < c → AsI c g me mem i ∧ bt (T.1 2 (g i)) r = true ∧ (hop (me (g i)) = true → bt (T.1 2 ((g i + 1) % 256)) r = true)
/-- the routine it is within -/
def rW (s : Ab) : Nat := aW s (aD s - 1)
/-- the step is done by a member -/
def Bm (m : Nat) (T : St) (s : Ab) : Prop := bt (T.1 m 2) (rW s) = true ∧ ∃ c i, T.1 (cu T (rW s)) 3 = nI c ∧ c ≤ 24 ∧ i < c ∧ T.1 (cu T (rW s) + 1) i = nI (aP s)
theorem svat {T : St} {o k j : Nat} {v : Int32} : (sv T o k v).1 o j = if j = k then v else T.1 o j := by rw [sv_eq]; rfl
theorem cbec_cg {o m w p v : Nat} {T T' : St} (G : Og o m w) (h : Off o w T T') : Off o w (cbec m p v T) (cbec m p v T') := by
  obtain ⟨-, -, g⟩ := G
  have e : ∀ j, j = 2 ∨ j = 3 ∨ j = m ∨ j = m + 1 → T'.1 j = T.1 j := fun j hj => h.1 j (by omega) (by omega) (by omega)
  refine ⟨fun j a b c => ?_, by rw [cbec_2, cbec_2]; exact h.2⟩
  by_cases hq : T.1 (m + 1) p = nI v
  · rw [cbec_same hq, cbec_same (by rw [e (m + 1) (by omega)]; exact hq)]; exact h.1 j a b c
  · have hq' : ¬ T'.1 (m + 1) p = nI v := by rw [e (m + 1) (by omega)]; exact hq
    by_cases h1 : j = m
    · subst h1
      unfold cbec
      rw [if_neg hq, if_neg hq', e 3 (by omega), e j (by omega), e 2 (by omega)]
      rw [sv_eq, sv_eq, sv_eq, sv_eq, sv_ne (by omega), sv_ne (by omega)]
      by_cases h2 : T.1 3 (p / 16) &&& T.1 j 2 = 0
      · rw [if_pos h2, if_pos h2, e j (by omega)]
      · rw [if_neg h2, if_neg h2, sv_eq, sv_eq, e j (by omega)]
    · by_cases h2 : j = m + 1
      · subst h2; rw [cbec_by hq, cbec_by hq', e (m + 1) (by omega)]
      · rw [cbec_ne h1 h2, cbec_ne h1 h2]; exact h.1 j a b c
theorem LV.step {o m w p v : Nat} {mem : Nat → Nat} {T T' : St} (G : Og o m w) (h : LV (T.1 m 2) mem T) (hB : By (m + 1) mem T) (hp : p < 256) (hv : v < 256) (hO : Off o w (cbec m p v T) T') : LV (T'.1 m 2) (mu mem p v) T' := by
  obtain ⟨-, -, g⟩ := G
  have e : ∀ j, j ≠ m → j ≠ m + 1 → j ≠ o → j ≠ w → j ≠ w + 1 → T'.1 j = T.1 j := fun j a b c d f => by rw [hO.1 j c d f, cbec_ne a b]
  have em : T'.1 m = (cbec m p v T).1 m := hO.1 m (by omega) (by omega) (by omega)
  have key : ∀ r, bt (T'.1 m 2) r = true → r < 32 → bt (T.1 m 2) r = true ∧ (mem p ≠ v → bt (T.1 2 p) r = false) := fun r hr h32 => by
    rw [em] at hr
    by_cases hq : T.1 (m + 1) p = nI v
    · rw [cbec_same hq] at hr; exact ⟨hr, fun z => absurd ((nIb hB hp hv).mp hq) z⟩
    · rw [cbec_f2 hq, b_and, b_not _ h32, Bool.and_eq_true] at hr
      exact ⟨hr.1, fun _ => by have := hr.2; cases q : bt (T.1 2 p) r with
        | false => rfl
        | true => rw [q] at this; cases this⟩
  intro r hr hb
  obtain ⟨k1, k2⟩ := key r hb (by omega)
  obtain ⟨c, g', me, hM, hme, hx⟩ := h r hr k1
  have o27 : T'.1 (27 + 9 * r) = T.1 (27 + 9 * r) := e _ (by omega) (by omega) (by omega) (by omega) (by omega)
  have ecu : cu T' r = cu T r := by unfold cu; rw [o27]
  have hmb := mb_in r (T.1 (27 + 9 * r) 0)
  have hcu : cu T r = mb (27 + 9 * r) (T.1 (27 + 9 * r) 0) := rfl
  have ec : ∀ j, cu T r ≤ j → j ≤ cu T r + 3 → T'.1 j = T.1 j := fun j a b => e j (by omega) (by omega) (by omega) (by omega) (by omega)
  refine ⟨c, g', me, ?_, hme, fun i hi => ?_⟩
  · rw [ecu]
    obtain ⟨hH, hs, hvv⟩ := hM
    refine ⟨hH.of (by rw [ec _ (by omega) (by omega)]) (fun i _ => by rw [ec _ (by omega) (by omega)]), hs, fun i hi => ?_⟩
    rw [ec _ (by omega) (by omega), ec _ (by omega) (by omega)]
    exact hvv i hi
  · obtain ⟨⟨x1, x2⟩, x3, x4⟩ := hx i hi
    rw [e 2 (by omega) (by omega) (by omega) (by omega) (by omega)]
    have one : ∀ q, mem q = me q → bt (T.1 2 q) r = true → mu mem p v q = me q := fun q a b => by
      by_cases eq : q = p
      · subst eq
        rw [mu_k]
        by_cases ev : mem q = v
        · rw [← ev]; exact a
        · rw [k2 ev] at b; cases b
      · rw [mu_j eq]; exact a
    exact ⟨⟨one _ x1 x3, fun hh => one _ (x2 hh) (x4 hh)⟩, x3, x4⟩
theorem s_fetch {o m w n : Nat} {s : Ab} {T : St} {post : Int32 → St → Prop} (G : Og o m w) (hn : n ≤ 10) (hW : WF n s) (hR : RC o m w s T) (hV : LV (T.1 m 2) (aM s) T)
    (h1 : ∀ op', op' < 256 → (hop (kd s) = true → op' = opd s) → Bm m T s → post 1 (sv (sv T o 9 (nI (kd s))) o 10 (nI op'))) (h0 : ¬ Bm m T s → post 0 T) : wp_X0_fetchFromMember o T post := by
  obtain ⟨gm, gw', g⟩ := G
  obtain ⟨r4, r5, r6, r7, r8, r15, rs, rb, rc⟩ := hR
  obtain ⟨w1, w2, w3, w4, w5, w6, w7⟩ := hW
  unfold wp_X0_fetchFromMember
  rw [gm, gw', r4]
  have hwr : rW s < n := w4 _ (by omega)
  have est : T.1 w (nI (aD s) - 1).toNatClampNeg = nI (rW s) := by rw [n_1, pk_sub (by omega), cl (by omega)]; exact (rs _ (by omega)).1
  refine ⟨fun z => ?_, fun _ => ⟨by rw [n_1, pk_sub (by omega)]; exact vin (by omega) (by omega), ?_⟩⟩
  · rw [n_1, ltN (by omega) (by omega)] at z; omega
  rw [est]
  refine s_hasLive (fun z => ⟨fun u => absurd rfl u, fun _ => h0 (fun b => ?_)⟩) (fun z => ⟨fun _ => ?_, fun u => absurd u (by decide)⟩)
  · rw [b_tst (by omega)] at z; rw [b.1] at z; cases z
  rw [b_tst (by omega)] at z
  have hbt : bt (T.1 m 2) (rW s) = true := by
    cases e : bt (T.1 m 2) (rW s) with
    | true => rfl
    | false => exact absurd e z
  obtain ⟨c, g', me, hM, hme, hx⟩ := hV (rW s) (by omega) hbt
  rw [r4, est, cl (by omega), r8]
  refine ⟨by rw [n_1, pk_sub (by omega)]; exact vin (by omega) (by omega), vin (by omega) (by omega), ?_⟩
  show wp_X3_indexOf (cu T (rW s)) (nI (aP s)) T _
  have hc := hM.1.2.1
  refine s_indexOf hM.1.1 hc (fun i hi he _ => ⟨fun _ => ⟨vin (by omega) (by omega), ?_⟩, fun u => absurd (by rw [n_0]; exact nI_le (by omega) (by omega)) u⟩) (fun hno => ⟨fun u => absurd u (by decide), fun _ => h0 (fun b => ?_)⟩)
  · rw [cl (by omega)]
    show ∀ T12 : St, T12 = sv T o 9 (T.1 (cu T (rW s) + 2) i) → (vp_in (nI i) 24 ∧ (∀ T14 : St, T14 = sv T12 o 10 (T12.1 (cu T (rW s) + 3) i) → (post 1 T14)))
    have hgi : g' i = aP s := (nIe (by have := (hM.1.2.2.1 i hi).1; omega) (by omega)).mp ((hM.1.2.2.1 i hi).2.symm.trans he)
    have hmb := mb_in (rW s) (T.1 (27 + 9 * rW s) 0)
    have hcu : cu T (rW s) = mb (27 + 9 * rW s) (T.1 (27 + 9 * rW s) 0) := rfl
    rintro T12 rfl
    refine ⟨vin (by omega) (by omega), ?_⟩
    rintro T14 rfl
    rw [sv_ne (by omega), (hM.2.2 i hi).1, (hM.2.2 i hi).2]
    obtain ⟨⟨x1, x2⟩, -⟩ := hx i hi
    rw [← x1, hgi]
    refine h1 (me ((aP s + 1) % 256)) (hme _ (Nat.mod_lt _ (by omega))) (fun hh => ?_) ⟨hbt, c, i, hM.1.1, hc, hi, he⟩
    rw [hgi] at x1 x2
    exact (x2 (by rw [← x1]; exact hh)).symm
  · obtain ⟨-, c', i, e1, e2, e3, e4⟩ := b
    have : c = c' := (nIe (by omega) (by omega)).mp (hM.1.1.symm.trans e1)
    subst this
    exact hno i e3 e4
theorem s_enter {o m w d x r b : Nat} {a2 : Int32} {T : St} {post : St → Prop} (G : Og o m w) (h4 : T.1 o 4 = nI d) (hd : d < 6) (h5 : T.1 o 5 = nI x) (hx : x ≤ 6) (hr : r < 10) (hb : T.1 (27 + 9 * r) 3 = nI b)
    (hp : ∀ T', Off o w T T' → T'.1 o 4 = nI (d + 1) → T'.1 o 5 = nI (if x < d + 1 then d + 1 else x) → T'.1 o 8 = nI b → (∀ j, j ≠ 4 → j ≠ 5 → j ≠ 8 → T'.1 o j = T.1 o j) → T'.1 w = upd (T.1 w) d (nI r) → T'.1 (w + 1) = upd (T.1 (w + 1)) d a2 → post T') : wp_X0_enter o (nI r) a2 T post := by
  obtain ⟨gm, gw', g⟩ := G
  unfold wp_X0_enter
  rw [gw', h4, cl (by omega), sv_ne (o := w) (i := o) (by omega), h4, cl (by omega)]
  refine ⟨fun z => ?_, fun _ => ⟨vin (by omega) (by omega), vin (by omega) (by omega), ?_⟩⟩
  · rw [show (6 : Int32) = nI 6 from rfl, leN (by omega) (by omega)] at z; omega
  rintro T4 e4 T5 e5
  refine ⟨vin (by omega) (by omega), ?_⟩
  have t4 : ∀ j, j ≠ w → j ≠ w + 1 → T4.1 j = T.1 j := fun j a b => by rw [e4, sv_ne b, sv_ne a]
  have t4o : T4.1 o = T.1 o := t4 o (by omega) (by omega)
  have e44 : (sv T4 o 4 (T4.1 o 4 + 1)).1 o 4 = nI (d + 1) := by rw [sv_k, t4o, h4, nI_1]
  have e45 : (sv T4 o 4 (T4.1 o 4 + 1)).1 o 5 = nI x := by rw [sv_j (by decide), t4o, h5]
  rw [e44, e45] at e5
  have t5 : ∀ j, j ≠ o → T5.1 j = T4.1 j := fun j a => by rw [e5, sv_ne a, sv_ne a]
  rw [cl (by omega), t5 _ (by omega), t4 _ (by omega) (by omega), hb]
  have t8 : ∀ j, j ≠ o → (sv T5 o 8 (nI b)).1 j = T5.1 j := fun j a => sv_ne a
  refine hp _ ⟨fun j a b' c => by rw [t8 j a, t5 j a, t4 j b' c], ?_⟩ ?_ ?_ sv_k (fun j a b' c => ?_) ?_ ?_
  · rw [sv2, e5, sv2, sv2, e4, sv2, sv2]
  · rw [sv_j (by decide), e5, sv_j (by decide)]; exact e44
  · rw [sv_j (by decide), e5, sv_k]
    by_cases q : x < d + 1
    · rw [if_pos q, if_pos ((ltN (by omega) (by omega)).mpr q)]
    · rw [if_neg q, if_neg (fun z => q ((ltN (by omega) (by omega)).mp z))]
  · rw [sv_j c, e5, sv_j b', sv_j a, t4o]
  · rw [t8 w (by omega), t5 w (by omega), e4, sv_ne (by omega), sv_eq]
  · rw [t8 _ (by omega), t5 _ (by omega), e4, sv_eq, sv_ne (by omega)]
