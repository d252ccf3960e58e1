/-! Member.decode, hasActsThatMeet, fill -/
/-- a member as it was made over the bytes mem -/
def MO (m c : Nat) (g mem : Nat → Nat) (T : St) : Prop := HS m c g T ∧ Srt g c ∧ ∀ i, i < c → T.1 (m + 2) i = nI (mem (g i)) ∧ T.1 (m + 3) i = nI (mem ((g i + 1) % 256))
theorem HS.of {m c : Nat} {g : Nat → Nat} {T T' : St} (h : HS m c g T) (h0 : T'.1 m 3 = T.1 m 3) (h1 : ∀ i, i < c → T'.1 (m + 1) i = T.1 (m + 1) i) : HS m c g T' := ⟨h0.trans h.1, h.2.1, fun i hi => ⟨(h.2.2.1 i hi).1, (h1 i hi).trans (h.2.2.1 i hi).2⟩, h.2.2.2⟩
theorem s_decode {m q c : Nat} {g mem : Nat → Nat} {T : St} {post : St → Prop} (hq : q < m ∨ m + 3 < q) (hB : By q mem T) (hH : HS m c g T) (hs : Srt g c) (h1 : ∀ T' : St, MO m c g mem T' → Fr m T T' → post T') : wp_X3_decode m q T post := by
  have hc := hH.2.1
  unfold wp_X3_decode
  refine LW_cnt c (fun i T' => ∃ f2 f3, T' = sa (sa T (m + 2) f2) (m + 3) f3 ∧ ∀ j, j < i → f2 j = nI (mem (g j)) ∧ f3 j = nI (mem ((g j + 1) % 256))) ⟨T.1 (m + 2), T.1 (m + 3), by rw [sa_self, sa_self], fun j hj => by omega⟩ ?_
  rintro i T' hi ⟨f2, f3, rfl, hf⟩ k hk
  have l3 : (sa (sa T (m + 2) f2) (m + 3) f3).1 m 3 = nI c := by rw [sa_ne (by omega), sa_ne (by omega)]; exact hH.1
  have lr : (sa (sa T (m + 2) f2) (m + 3) f3).1 (m + 1) = T.1 (m + 1) := by rw [sa_ne (by omega), sa_ne (by omega)]
  have lq : (sa (sa T (m + 2) f2) (m + 3) f3).1 q = T.1 q := by rw [sa_ne (by omega), sa_ne (by omega)]
  unfold wb_X3_decode_2
  rw [l3, leN (by omega) (by omega)]
  refine ⟨fun hic => ?_, fun hic => ?_⟩
  · have : i = c := by omega
    subst this
    refine h1 _ ⟨hH.of (by rw [l3, hH.1]) (fun j _ => by rw [lr]), hs, fun j hj => ?_⟩ ⟨fun j hj => by rw [sa_ne (by omega), sa_ne (by omega)], rfl⟩
    rw [sa_ne (by omega), sa_eq, sa_eq]
    exact hf j hj
  · obtain ⟨a1, a2⟩ := hH.2.2.1 i (by omega)
    have hm : (g i + 1) % 256 < 256 := Nat.mod_lt _ (by omega)
    rw [cl (by omega), lr, a2, cl (by omega)]
    rw [sv_ne (o := m + 2) (i := m + 1) (by omega), lr, a2, show (nI (g i) + 1) &&& 255 = nI ((g i + 1) % 256) by rw [n_1]; exact nI_m255 (by omega), cl (by omega)]
    refine ⟨vin (by omega) (by omega), vin a1 (by omega), vin (by omega) (by omega), vin (by omega) (by omega), vin hm (by omega), vin (by omega) (by omega), ?_⟩
    rintro T17 rfl
    rw [sv_ne (o := m + 2) (i := q) (by omega), lq, (hB _ a1).1, (hB _ hm).1]
    refine hk _ (by omega) ⟨upd f2 i (nI (mem (g i))), upd f3 i (nI (mem ((g i + 1) % 256))), ?_, fun j hj => ?_⟩
    · unfold sv
      rw [sa_ne (o := m + 3) (i := m + 2) (by omega), sa_eq, sa_ne (o := m + 2) (i := m + 3) (by omega), sa_eq, sa_comm (a := m + 3) (b := m + 2) (by omega), sa_sa, sa_sa]
    · by_cases e : j = i
      · subst e; rw [upd_k, upd_k]; exact ⟨rfl, rfl⟩
      · rw [upd_j e, upd_j e]; exact hf j (by omega)
theorem s_meet {m c : Nat} {g mem : Nat → Nat} {T : St} {post : Int32 → St → Prop} (hM : MO m c g mem T) (hm : ∀ p, p < 256 → mem p < 256) (h1 : (∃ i, i < c ∧ hop (mem (g i)) = true ∧ ∃ j, j < c ∧ g j = (g i + 1) % 256) → post 1 T) (h0 : (∀ i, i < c → hop (mem (g i)) = true → ∀ j, j < c → g j ≠ (g i + 1) % 256) → post 0 T) : wp_X3_hasActsThatMeet m T post := by
  obtain ⟨⟨e3, hc, ha, hj⟩, hs, hv⟩ := hM
  unfold wp_X3_hasActsThatMeet
  refine LW_cnt c (fun i T' => T' = T ∧ ∀ i', i' < i → hop (mem (g i')) = true → ∀ j, j < c → g j ≠ (g i' + 1) % 256) ⟨rfl, fun j hj => by omega⟩ ?_
  rintro i T' hi ⟨rfl, hJ⟩ k hk
  unfold wb_X3_hasActsThatMeet_2
  rw [e3, leN (by omega) (by omega)]
  refine ⟨fun hic => h0 (fun i' hi' => hJ i' (by omega)), fun hic => ⟨vin (by omega) (by omega), ?_⟩⟩
  obtain ⟨a1, a2⟩ := ha i (by omega)
  rw [cl (by omega), (hv i (by omega)).1]
  have nxt : (hop (mem (g i)) = true → ∀ j, j < c → g j ≠ (g i + 1) % 256) → k (nI i + 1) T' := fun hn => hk _ (by omega) ⟨rfl, fun i' hi' => by
    by_cases e : i' = i
    · subst e; exact hn
    · exact hJ i' (by omega)⟩
  refine s_hasOperand (hm _ a1) (fun hh => ⟨fun q => absurd q (by decide), fun _ => ⟨vin (by omega) (by omega), ?_⟩⟩) (fun hh => ⟨fun _ => nxt (fun z => by rw [hh] at z; cases z), fun q => absurd rfl q⟩)
  have hl : (g i + 1) % 256 < 256 := Nat.mod_lt _ (by omega)
  rw [a2, show (nI (g i) + 1) &&& 255 = nI ((g i + 1) % 256) by rw [n_1]; exact nI_m255 (by omega)]
  refine s_indexOf e3 hc (fun j hj' he _ => ⟨fun q => absurd q (nI_pos (by omega)), fun _ => h1 ⟨i, by omega, hh, j, hj', ?_⟩⟩) (fun hn => ⟨fun _ => nxt (fun _ j hj' e => hn j hj' (by rw [(ha j hj').2, e])), fun q => absurd (by decide) q⟩)
  exact (nIe (by have := (ha j hj').1; omega) (by omega)).mp ((ha j hj').2.symm.trans he)
theorem Too.mk {mem : Nat → Nat} {s : Nat} (hs : s < 256) (h : Too (Rch mem s)) : ¬ Mk mem s := by
  obtain ⟨g, h1, h2⟩ := h
  intro hk
  have := cnt_inj 256 25 (rb mem s) g (fun i hi => ⟨(h1 i hi).lt hs, rb_iff.mpr (h1 i hi)⟩) h2
  have := hk.2.1
  omega
theorem s_mfill {m q s : Nat} {mem : Nat → Nat} {T : St} {post : Int32 → St → Prop} (hs : s < 256) (hq : q < m ∨ m + 3 < q) (hB : By q mem T)
    (h1 : ∀ (c : Nat) (g : Nat → Nat) (T' : St), MO m c g mem T' → Fr m T T' → (∀ p, Rch mem s p ↔ ∃ i, i < c ∧ g i = p) → Mk mem s → post 1 T') (h0 : ∀ T' : St, Fr m T T' → ¬ Mk mem s → post 0 T') : wp_X3_fill m q (nI s) T post := by
  have hm : ∀ p, p < 256 → mem p < 256 := fun p hp => (hB p hp).2
  unfold wp_X3_fill
  refine s_addHead (c := 0) (h := fun _ => 0) (p := s) (by rw [a255 (by omega), Nat.mod_eq_of_lt hs]) hs ⟨sv_k, by omega, fun i hi => by omega, fun i j hi => by omega⟩ (fun c h T1 hH hF _ _ hin hall => ?_) (fun e => by omega)
  have hF0 : Fr m T T1 := (Fr.sv (by omega) (by omega)).tr hF
  refine LW_gen 24 (fun t v T' => v.2 = nI t ∧ Fr m T T' ∧ ((v.1 = 1 ∧ ∃ c h, HS m c h T' ∧ (∀ i, i < c → Rch mem s (h i)) ∧ (∃ i, i < c ∧ h i = s) ∧ t ≤ c ∧ ∀ j, j < t → mem (h j) ≤ 12 ∧ ∀ y, Su mem (h j) y → ∃ i, i < c ∧ h i = y) ∨ (v.1 = 0 ∧ ¬ Mk mem s))) ⟨rfl, hF0, Or.inl ⟨rfl, c, h, hH, fun i hi => by
    rcases hall i hi with z | z
    · omega
    · rw [z]; exact Rch.rf, hin, Nat.zero_le _, fun j hj => by omega⟩⟩ ?_
  rintro t ⟨x, y⟩ T5 ht ⟨e2, hF5, hJ⟩ k hk
  have e2 : y = nI t := e2
  subst e2
  -- the end, with no fit
  have bad : ¬ Mk mem s → wj_X3_fill_53 m q 0 T5 post := fun hn => ⟨fun z => absurd rfl z, fun _ => h0 T5 hF5 hn⟩
  unfold wb_X3_fill_14
  rcases hJ with ⟨e1, c5, h5, hH5, hR5, hin5, htc, hcl⟩ | ⟨e1, hn⟩
  · have e1 : x = 1 := e1
    subst e1
    have good : t = c5 → wj_X3_fill_53 m q 1 T5 post := by
      rintro rfl
      have hset : ∀ p, Rch mem s p ↔ ∃ i, i < t ∧ h5 i = p := fun p => ⟨fun hp => hp (fun p => ∃ i, i < t ∧ h5 i = p) hin5 (fun a b ⟨i, hi, e⟩ hb => (hcl i hi).2 b (by rw [e]; exact hb)), fun ⟨i, hi, e⟩ => by rw [← e]; exact hR5 i hi⟩
      refine ⟨fun _ => ?_, fun z => absurd z (by decide)⟩
      refine s_sortHeads hH5 (fun g T6 hH6 hF6 hs6 hsam => ?_)
      have hB6 : By q mem T6 := (hB.fr hq hF5).fr hq (hF6.fr (by omega) (by omega))
      refine s_decode hq hB6 hH6 hs6 (fun T7 hM7 hF7 => ?_)
      have hF' : Fr m T T7 := (hF5.tr (hF6.fr (by omega) (by omega))).tr hF7
      have hset' : ∀ p, Rch mem s p ↔ ∃ i, i < t ∧ g i = p := fun p => (hset p).trans (hsam p).symm
      refine s_meet hM7 hm (fun hx => ⟨fun _ => ?_, fun z => absurd z (by decide)⟩) (fun hx => ⟨fun z => absurd rfl z, fun _ => ?_⟩)
      · refine h0 T7 hF' (fun hk => ?_)
        obtain ⟨i, hi, hh, j, hj, e⟩ := hx
        exact hk.2.2 (g i) ((hset' _).mpr ⟨i, hi, rfl⟩) hh ((hset' _).mpr ⟨j, hj, e⟩)
      · refine h1 t g T7 hM7 hF' hset' ⟨fun p hp => ?_, ?_, fun p hp hh hp2 => ?_⟩
        · obtain ⟨i, hi, rfl⟩ := (hset p).mp hp
          exact (hcl i hi).1
        · rw [cnt_all 256 t (rb mem s) g (fun i hi => ⟨(hH6.2.2.1 i hi).1, rb_iff.mpr ((hset' _).mpr ⟨i, hi, rfl⟩)⟩) hH6.2.2.2 (fun p hp e => (hset' p).mp (rb_iff.mp e))]
          exact hH6.2.1
        · obtain ⟨i, hi, rfl⟩ := (hset' p).mp hp
          obtain ⟨j, hj, e⟩ := (hset' _).mp hp2
          exact hx i hi hh j hj e
    refine ⟨fun z => good (by rw [n_24, leN (by omega) (by omega)] at z; have := hH5.2.1; omega), fun z => ⟨fun z2 => good ?_, fun z2 => ⟨fun z3 => absurd z3 (show ¬ (1 : Int32) = 0 by decide), fun _ => ?_⟩⟩⟩
    · rw [hH5.1, leN (by have := hH5.2.1; omega) (by omega)] at z2; omega
    · rw [n_24, leN (by omega) (by omega)] at z
      rw [hH5.1, leN (by have := hH5.2.1; omega) (by omega)] at z2
      refine ⟨vin (by omega) (by omega), ?_⟩
      rw [cl (by omega), (hH5.2.2.1 t (by omega)).2]
      refine s_addHeadsBehind (R := Rch mem s) (hH5.2.2.1 t (by omega)).1 hq (hB.fr hq hF5) hH5 hR5 (hR5 t (by omega)) (fun a b h1 h2 => h1.st h2) (fun c6 h6 T6 hH6 hF6 hc6 hp6 hR6 hk6 hsu => ?_) (fun T6 hF6 hx => ?_)
      · refine hk _ _ (by omega) ⟨nI_1 t, hF5.tr hF6, Or.inl ⟨rfl, c6, h6, hH6, hR6, ?_, by omega, fun j hj => ?_⟩⟩
        · obtain ⟨i, hi, e⟩ := hin5
          exact ⟨i, by omega, by rw [hp6 i hi, e]⟩
        · by_cases e : j = t
          · subst e; rw [hp6 j (by omega)]; exact ⟨hk6, hsu⟩
          · rw [hp6 j (by omega)]
            refine ⟨(hcl j (by omega)).1, fun y hy => ?_⟩
            obtain ⟨i, hi, e⟩ := (hcl j (by omega)).2 y hy
            exact ⟨i, by omega, by rw [hp6 i hi, e]⟩
      · refine hk _ _ (by omega) ⟨nI_1 t, hF5.tr hF6, Or.inr ⟨rfl, ?_⟩⟩
        rcases hx with hx | hx
        · exact fun hm => absurd (hm.1 _ (hR5 t (by omega))) (by omega)
        · exact hx.mk hs
  · have e1 : x = 0 := e1
    subst e1
    exact ⟨fun _ => bad hn, fun _ => ⟨fun _ => bad hn, fun _ => ⟨fun _ => bad hn, fun z => absurd rfl z⟩⟩⟩
