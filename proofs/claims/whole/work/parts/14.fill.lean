/-- the bytes of a row -/
def By (q : Nat) (mem : Nat → Nat) (T : St) : Prop := ∀ p, p < 256 → T.1 q p = nI (mem p) ∧ mem p < 256
theorem By.fr {q m : Nat} {mem : Nat → Nat} {T T' : St} (h : By q mem T) (hq : q < m ∨ m + 3 < q) (hF : Fr m T T') : By q mem T' := fun p hp => by rw [hF.1 q hq]; exact h p hp
theorem nI_m255 {a b : Nat} (h : a + b < 2 ^ 32) : (nI a + nI b) &&& 255 = nI ((a + b) % 256) := by rw [nI_add, a255 h]
/-- 25 different numbers that R holds -/
def Too (R : Nat → Prop) : Prop := ∃ g : Nat → Nat, (∀ i, i < 25 → R (g i)) ∧ ∀ i j, i < 25 → j < 25 → g i = g j → i = j
theorem too_of {R : Nat → Prop} {h : Nat → Nat} {c p : Nat} (hc : c = 24) (hR : ∀ i, i < c → R (h i)) (hp : R p) (hj : ∀ i j, i < c → j < c → h i = h j → i = j) (hn : ∀ i, i < c → h i ≠ p) : Too R := by
  subst hc
  refine ⟨fun i => if i = 24 then p else h i, fun i hi => ?_, fun i j hi hj' e => ?_⟩
  · by_cases h24 : i = 24
    · simp [h24, hp]
    · simp only [if_neg h24]; exact hR i (by omega)
  · simp only at e
    by_cases hic : i = 24 <;> by_cases hjc : j = 24
    · omega
    · rw [if_pos hic, if_neg hjc] at e; exact absurd e.symm (hn j (by omega))
    · rw [if_neg hic, if_pos hjc] at e; exact absurd e (hn i (by omega))
    · rw [if_neg hic, if_neg hjc] at e; exact hj i j (by omega) (by omega) e
theorem s_addHeadsBehind {m q c p : Nat} {h mem : Nat → Nat} {R : Nat → Prop} {T : St} {post : Int32 → St → Prop} (hp : p < 256) (hq : q < m ∨ m + 3 < q) (hB : By q mem T) (hH : HS m c h T) (hR : ∀ i, i < c → R (h i)) (hRp : R p) (hRs : ∀ x y, R x → Su mem x y → R y)
    (h1 : ∀ (c' : Nat) (h' : Nat → Nat) (T' : St), HS m c' h' T' → Fr m T T' → c ≤ c' → (∀ i, i < c → h' i = h i) → (∀ i, i < c' → R (h' i)) → mem p ≤ 12 → (∀ y, Su mem p y → ∃ i, i < c' ∧ h' i = y) → post 1 T') (h0 : ∀ T' : St, Fr m T T' → (12 < mem p ∨ Too R) → post 0 T') : wp_X3_addHeadsBehind m q (nI p) T post := by
  obtain ⟨hb, hb2⟩ := hB p hp
  unfold wp_X3_addHeadsBehind
  refine ⟨vin hp (by omega), ?_⟩
  rw [cl (by omega), hb]
  refine s_isKind hb2 (fun hk => ⟨fun _ => ?_, fun q => absurd q (by decide)⟩) (fun hk => ⟨fun q => absurd rfl q, fun _ => h0 T Fr.rf (Or.inl hk)⟩)
  refine s_lengthOf hb2 ?_
  -- the second head
  have key : ∀ (c' : Nat) (h' : Nat → Nat) (T' : St), HS m c' h' T' → Fr m T T' → c ≤ c' → (∀ i, i < c → h' i = h i) → (∀ i, i < c' → R (h' i)) → ((mem p ≠ 0 ∧ mem p ≠ 6) → ∃ i, i < c' ∧ h' i = nx mem p) → wj_X3_addHeadsBehind_42 m q (nI p) (nI (mem p)) (nI p + nI (ln (mem p))) T' post := by
    intro c' h' T' hH' hF hcc hpre hR' hnx
    unfold wj_X3_addHeadsBehind_42
    refine s_canGo hb2 (fun hg => ⟨fun q => absurd q (by decide), fun _ => ?_⟩) (fun hg => ⟨fun _ => ?_, fun q => absurd rfl q⟩)
    · have hB' := hB.fr hq hF
      have e1 : (nI p + 1) &&& 255 = nI ((p + 1) % 256) := by rw [n_1]; exact nI_m255 (by omega)
      have hl1 : (p + 1) % 256 < 256 := Nat.mod_lt _ (by omega)
      rw [e1]
      refine ⟨vin hl1 (by omega), ?_⟩
      rw [cl (by omega), (hB' _ hl1).1]
      have hln : ln (mem p) = 2 := by simp [ln, cge_hop hg]
      obtain ⟨o1, o2⟩ := oi_ok p (mem ((p + 1) % 256))
      have hsu : Su mem p (ot mem p) := ⟨hk, Or.inr ⟨hg, rfl⟩⟩
      refine s_addHead (p := ot mem p) (by rw [hln]; exact o2) (ot_lt mem p) hH' (fun c2 h2 T2 hH2 hF2 hc2 hp2 hin hall => ⟨fun q => absurd q (by decide), fun _ => ?_⟩) (fun e24 hne => ⟨fun _ => ?_, fun q => absurd rfl q⟩)
      · refine h1 c2 h2 T2 hH2 (hF.tr hF2) (by omega) (fun i hi => (hp2 i (by omega)).trans (hpre i hi)) (fun i hi => ?_) hk (fun y hy => ?_)
        · rcases hall i hi with hh | hh
          · rw [hp2 i hh]; exact hR' i hh
          · rw [hh]; exact hRs p _ hRp hsu
        · rcases hy.2 with ⟨n0, n6, rfl⟩ | ⟨-, rfl⟩
          · obtain ⟨i, hi, e⟩ := hnx ⟨n0, n6⟩
            exact ⟨i, by omega, by rw [hp2 i hi, e]⟩
          · exact hin
      · exact h0 T' hF (Or.inr (too_of e24 hR' (hRs p _ hRp hsu) hH'.2.2.2 hne))
    · refine h1 c' h' T' hH' hF hcc hpre hR' hk (fun y hy => ?_)
      rcases hy.2 with ⟨n0, n6, rfl⟩ | ⟨hg', -⟩
      · exact hnx ⟨n0, n6⟩
      · rw [hg] at hg'; cases hg'
  rw [n_0, show (6 : Int32) = nI 6 from rfl, nIe (by omega) (by omega), nIe (by omega) (by omega)]
  refine ⟨fun e => key c h T hH Fr.rf (Nat.le_refl _) (fun _ _ => rfl) hR (fun hh => absurd e hh.1), fun e0 => ⟨fun e => key c h T hH Fr.rf (Nat.le_refl _) (fun _ _ => rfl) hR (fun hh => absurd e hh.2), fun e6 => ?_⟩⟩
  have hsu : Su mem p (nx mem p) := ⟨hk, Or.inl ⟨e0, e6, rfl⟩⟩
  have hl2 : ln (mem p) ≤ 2 := by unfold ln; split <;> omega
  refine s_addHead (p := nx mem p) (nI_m255 (by omega)) (nx_lt mem p) hH (fun c2 h2 T2 hH2 hF2 hc2 hp2 hin hall => ⟨fun _ => ?_, fun q => absurd q (by decide)⟩) (fun e24 hne => ⟨fun q => absurd rfl q, fun _ => ?_⟩)
  · refine key c2 h2 T2 hH2 hF2 hc2 hp2 (fun i hi => ?_) (fun _ => hin)
    rcases hall i hi with hh | hh
    · rw [hp2 i hh]; exact hR i hh
    · rw [hh]; exact hRs p _ hRp hsu
  · exact h0 T Fr.rf (Or.inr (too_of e24 hR (hRs p _ hRp hsu) hH.2.2.2 hne))
