/-! head: class and model -/
theorem s_in24_bad {x : Int32} {n : Nat} {T : St} {post : Int32 → St → Prop} (hn : n ≤ 24) (h : x < 0 ∨ nI n ≤ x) (hp : post 0 T) : wp_X7_in x 0 (nI n - 1) T post := by
  refine s_in_bad (h.imp id (fun w => ?_)) hp
  rw [Int32.lt_iff_toInt_lt]
  rw [Int32.le_iff_toInt_le, nI_toInt (by omega)] at w
  rw [n_1, pk_sub_toInt (by omega) (by omega)]
  omega
theorem s_in24_ok {r n : Nat} {T : St} {post : Int32 → St → Prop} (hn : n ≤ 24) (h : r < n) (hp : post 1 T) : wp_X7_in (nI r) 0 (nI n - 1) T post := by
  rw [n_1, pk_sub (by omega), n_0]
  exact s_in_ok (by omega) (by omega) (by omega) hp
/-- the heads below the k-th head are k -/
theorem srt_cnt {hd : Nat → Int32} {c : Nat} {g : Nat → Nat} (hs : Srt g c) (hg : ∀ i, i < c → g i < 256) (h2 : ∀ p, p < 256 → B01 (hd p) ∧ (hd p = 1 ↔ ∃ i, i < c ∧ g i = p)) {k : Nat} (hk : k < c) : cnt (b1 hd) (g k) = k := by
  have mono : ∀ i j, i < c → j < c → g i < g j → i < j := fun i j hi hj e => by
    rcases Nat.lt_or_ge i j with q | q
    · exact q
    · rcases Nat.lt_or_ge j i with w | w
      · have := hs j i w hi; omega
      · have : i = j := by omega
        subst this; omega
  refine cnt_all (g k) k (b1 hd) g (fun i hi => ⟨hs i k hi hk, ?_⟩) (fun i j hi hj e => ?_) (fun p hp e => ?_)
  · unfold b1; exact decide_eq_true ((h2 _ (hg i (by omega))).2.mpr ⟨i, by omega, rfl⟩)
  · rcases Nat.lt_trichotomy i j with q | q | q
    · have := hs i j q (by omega); omega
    · exact q
    · have := hs j i q (by omega); omega
  · unfold b1 at e
    obtain ⟨i, hi, e'⟩ := (h2 p (by have := hg k hk; omega)).2.mp (of_decide_eq_true e)
    exact ⟨i, mono i k hi hk (by omega), e'⟩
/-- the model's search -/
theorem s_mhead {r c k : Nat} {g : Nat → Nat} {M : St} {post : Int32 → St → Prop} (hr : r < 10) (hs : Srt g c) (hc : c ≤ 24) (hg : ∀ i, i < c → g i < 256) (h2 : ∀ p, p < 256 → B01 (row M 134 r p) ∧ (row M 134 r p = 1 ↔ ∃ i, i < c ∧ g i = p)) (hk : k < c) (hp : post (nI (g k)) M) : LW (fun kl (vl : Int32 × Int32) Tl => wb_X7_head_59 (nI r) kl vl.1 vl.2 Tl post) (nI k, 0) M := by
  obtain ⟨P, eP⟩ : ∃ P : Nat → Bool, P = b1 (row M 134 r) := ⟨_, rfl⟩
  have hgk := hg k hk
  refine LW_gen 256 (fun p v T => v.2 = nI p ∧ T = M ∧ v.1 = nI (k - cnt P p) ∧ cnt P p ≤ k ∧ p ≤ g k) ⟨rfl, rfl, rfl, Nat.zero_le _, Nat.zero_le _⟩ ?_
  rintro p ⟨x, y⟩ T hpp ⟨e2, rfl, e1, h3, h4⟩ kk hkk
  have e2 : y = nI p := e2
  have e1 : x = nI (k - cnt P p) := e1
  subst e2; subst e1
  have ex : (256 : Int32) * nI r + nI p = nI (256 * r + p) := by rw [n_256, nI_mul, nI_add]
  have hs1 : cnt P (p + 1) = cnt P p + (if P p then 1 else 0) := rfl
  have vi : vp_in (nI (256 * r + p)) 2560 := vin (by omega) (by omega)
  have hb := h2 p (by omega)
  have er : row T 134 r p = T.1 134 (256 * r + p) := rfl
  rw [er] at hb
  have eq1 : P p = decide (T.1 134 (256 * r + p) = 1) := by rw [eP]; rfl
  unfold wb_X7_head_59
  rw [ex, cl (by omega)]
  refine ⟨vi, fun z => ?_, fun z => ⟨fun w => ?_, fun w => ?_⟩⟩
  · unfold wj_X7_head_79
    rw [ex, cl (by omega)]
    refine ⟨vi, fun _ => hkk _ _ (by omega) ⟨nI_1 _, rfl, ?_, ?_, ?_⟩, fun q => absurd z q⟩
    · rw [hs1, eq1, z]; exact Int32.sub_zero _
    · rw [hs1, eq1, z]; exact h3
    · have : p ≠ g k := fun e => by
        have := hb.2.mpr ⟨k, hk, e.symm⟩
        rw [z] at this; exact absurd this (by decide)
      omega
  · have one : T.1 134 (256 * r + p) = 1 := hb.1.resolve_left z
    obtain ⟨j, hj, e⟩ := hb.2.mp one
    have hcj := srt_cnt hs hg h2 hj
    rw [← eP, e] at hcj
    rw [n_0, leN (by omega) (by omega)] at w
    have : j = k := by omega
    subst this
    rw [← e]; exact hp
  · have one : T.1 134 (256 * r + p) = 1 := hb.1.resolve_left z
    obtain ⟨j, hj, e⟩ := hb.2.mp one
    have hcj := srt_cnt hs hg h2 hj
    rw [← eP, e] at hcj
    rw [n_0, leN (by omega) (by omega)] at w
    have hjk : j < k := by omega
    have := hs j k hjk hk
    unfold wj_X7_head_79
    rw [ex, cl (by omega)]
    refine ⟨vi, fun q => absurd q z, fun _ => hkk _ _ (by omega) ⟨nI_1 _, rfl, ?_, ?_, ?_⟩⟩
    · rw [hs1, eq1, one, n_1, pk_sub (by omega)]
      show nI _ = nI (k - (cnt P p + 1))
      rw [show k - (cnt P p + 1) = k - cnt P p - 1 by omega]
    · rw [hs1, eq1, one]
      show cnt P p + 1 ≤ k
      omega
    · omega
theorem op_head {i : Nat} {a1 a2 : Int32} {T : St} (h : Rel i T T) : wp_L_head a1 a2 T (fun k T1 => wp_X7_head a1 a2 T1 (fun b T2 => wp_X7_thrown T2 (fun th T3 => Thx i k b th T3))) := by
  obtain ⟨l, n, mem, bg, ns, sn, nk, fi, kp, h1, h2, h3, h4, h5, h6⟩ := id h
  have hn := h1.1.1.1
  unfold wp_L_head wpx_X6_head
  rcases r_cases a1 hn with hb | ⟨r, hr, rfl⟩
  · refine s_noR_bad h1.1.1.2.1 hb ⟨fun _ => ?_, fun z => absurd z (by decide)⟩
    show wp_X7_head a1 a2 (sl T 151 0 (-1 : Int32).toInt64) _
    unfold wp_X7_head
    refine s_isR_bad (n := n) (by rw [sv_j (by decide)]; exact h1.1.1.2.2) hn hb ⟨fun z => absurd rfl z, fun _ => ?_⟩
    exact ⟨sv_k, fun _ => by rw [sv2]; exact sl_k, rel_sl2 h⟩
  refine s_noR_ok h1.1.1.2.1 hn hr ⟨fun z => absurd rfl z, fun _ => ?_⟩
  have hhas := h1.1.has hr
  have vr : vp_in (nI r) 10 := vin (by omega) (by omega)
  have mod : ∀ (U : St) (P : Int32 → St → Prop), U.1 130 2 = nI n → ((¬ (sv U 130 0 0).1 133 r = 0 → wp_X7_countOf (nI r) 1 (sv U 130 0 0) (fun r7 T6 => wp_X7_in a2 0 (r7 - 1) T6 (fun r9 T8 => (¬ r9 = 0 → LW (fun kl (vl : Int32 × Int32) Tl => wb_X7_head_59 (nI r) kl vl.1 vl.2 Tl P) (a2, 0) T8) ∧ (r9 = 0 → P 0 (sv T8 130 0 2))))) ∧ ((sv U 130 0 0).1 133 r = 0 → P 0 (sv (sv U 130 0 0) 130 0 1))) → wp_X7_head (nI r) a2 U P := fun U P e hh => by
    unfold wp_X7_head
    refine s_isR_ok (n := n) (by rw [sv_j (by decide)]; exact e) hn hr ⟨fun _ => ⟨vr, ?_⟩, fun z => absurd z (by decide)⟩
    rw [cl (by omega)]; exact hh
  refine s_hasLive (fun z => ⟨fun _ => Or.inl ⟨rfl, ?_⟩, fun z => absurd rfl z⟩) (fun z => ⟨fun w => absurd w (by decide), fun _ => ⟨vr, ?_⟩⟩)
  · rw [b_tst (by omega), h1.2.2.1 r (by omega)] at z
    have h0 : T.1 133 r = 0 := Classical.byContradiction (fun q => by have := hhas.mp q; rw [z] at this; cases this)
    refine mod T _ h1.1.1.2.2 ⟨fun q => absurd (by rw [sv_ne (by decide)]; exact h0) q, fun _ => ⟨sv_k, fun w => absurd w (by decide), ?_⟩⟩
    exact h.same (fun j a _ => by rw [sv_ne a, sv_ne a]) (fun j a => by rw [sv_j a, sv_j a]) rfl
  · rw [b_tst (by omega), h1.2.2.1 r (by omega)] at z
    have hl : l r = true := by simpa using z
    obtain ⟨c, g, me, hM, m1, m2, m3, m4, m5⟩ := h1.1.2.2.2.2.2.2.2.1 r hr hl
    have hc : c ≤ 24 := hM.1.2.1
    have hg : ∀ i, i < c → g i < 256 := fun i hi => (hM.1.2.2.1 i hi).1
    have hcnt : cnt (fun p => decide (row T 134 r p ≠ 0)) 256 = c := by
      rw [h1.1.count hr hl 134 (Or.inl rfl)]
      refine cnt_all 256 c _ g (fun i hi => ⟨hg i hi, ?_⟩) hM.1.2.2.2 (fun p hp e => ?_)
      · unfold b1; exact decide_eq_true ((m2 _ (hg i hi)).2.mpr ⟨i, hi, rfl⟩)
      · unfold b1 at e; exact (m2 p hp).2.mp (of_decide_eq_true e)
    have h133 : T.1 133 r ≠ 0 := hhas.mpr hl
    have hc3 : T.1 (mb (27 + 9 * r) (T.1 (27 + 9 * r) 0)) 3 = nI c := hM.1.1
    rw [cl (by omega), hc3]
    -- the model behind its count, in a world that differs from T by the law's cell alone
    have mod2 : ∀ (U : St) (P : Int32 → St → Prop), U.1 = T.1 → wp_X7_in a2 0 (nI c - 1) (sv U 130 0 0) (fun r9 T8 => (¬ r9 = 0 → LW (fun kl (vl : Int32 × Int32) Tl => wb_X7_head_59 (nI r) kl vl.1 vl.2 Tl P) (a2, 0) T8) ∧ (r9 = 0 → P 0 (sv T8 130 0 2))) → wp_X7_head (nI r) a2 U P := fun U P e hh => by
      refine mod U P (by rw [e]; exact h1.1.1.2.2) ⟨fun _ => ?_, fun q => absurd (by rw [sv_ne (by decide), e] at q; exact q) h133⟩
      refine s_countOf (by omega) (fun q => absurd (by rw [sv_ne (by decide), e] at q; exact q) h133) (fun _ => ?_)
      have er : row (sv U 130 0 0) 134 r = row T 134 r := by unfold row; rw [sv_ne (by decide), e]
      rw [if_neg (by decide), er, hcnt]
      exact hh
    have bad : (a2 < 0 ∨ nI c ≤ a2) → wp_X7_head (nI r) a2 T (fun b T2 => wp_X7_thrown T2 (fun th T3 => Thx i 2 b th T3)) := fun q => by
      refine mod2 T _ rfl (s_in24_bad hc q ⟨fun w => absurd rfl w, fun _ => ⟨sv_k, fun w => absurd w (by decide), ?_⟩⟩)
      exact h.same (fun j a _ => by rw [sv_ne a, sv_ne a]) (fun j a => by rw [sv_j a, sv_j a]) rfl
    refine ⟨fun q => Or.inr ⟨rfl, bad (Or.inl q)⟩, fun q => ⟨fun w => ?_, fun w => Or.inr ⟨rfl, bad (Or.inr (Int32.not_lt.mp w))⟩⟩⟩
    obtain ⟨k, hk, rfl⟩ := nI_of q
    rw [ltN hk (by omega)] at w
    refine ⟨vin (by omega) (by omega), ?_⟩
    rw [cl (by omega)]
    have ehd : T.1 (mb (27 + 9 * r) (T.1 (27 + 9 * r) 0) + 1) k = nI (g k) := (hM.1.2.2.1 k w).2
    rw [ehd]
    show wp_X7_head (nI r) (nI k) (sl T 151 0 (nI (g k)).toInt64) _
    refine mod2 _ _ rfl (s_in24_ok hc w ⟨fun _ => ?_, fun z => absurd z (by decide)⟩)
    refine s_mhead (c := c) (g := g) (by omega) hM.2.1 hc hg (fun p hp => ?_) w ?_
    · have er : row (sv (sl T 151 0 (nI (g k)).toInt64) 130 0 0) 134 r p = row T 134 r p := by unfold row; rw [sv_ne (by decide)]; rfl
      rw [er]; exact m2 p hp
    · exact ⟨sv_k, fun _ => by rw [sv2]; exact sl_k, rel_sl2 h⟩
