/-! Member.sortHeads -/
def sh_f (w : Nat → Int32) (i a : Nat) : Nat → Int32 := fun j => if j ≤ a then w j else if j ≤ i then w (j - 1) else w j
def sh_g (g : Nat → Nat) (i a : Nat) : Nat → Nat := fun j => if j < a then g j else if j = a then g i else if j ≤ i then g (j - 1) else g j
/-- only one row has changed -/
def F1 (o : Nat) (T T' : St) : Prop := (∀ j, j ≠ o → T'.1 j = T.1 j) ∧ T'.2 = T.2
theorem F1.rf {o : Nat} {T : St} : F1 o T T := ⟨fun _ _ => rfl, rfl⟩
theorem F1.tr {o : Nat} {T T' T'' : St} (h : F1 o T T') (h2 : F1 o T' T'') : F1 o T T'' := ⟨fun j hj => (h2.1 j hj).trans (h.1 j hj), h2.2.trans h.2⟩
theorem F1.sa {o : Nat} {T : St} {f : Nat → Int32} : F1 o T (sa T o f) := ⟨fun _ h => sa_ne h, rfl⟩
theorem F1.fr {m o : Nat} {T T' : St} (h : F1 o T T') (h1 : m ≤ o) (h2 : o ≤ m + 3) : Fr m T T' := ⟨fun j hj => h.1 j (by omega), h.2⟩
def Srt (g : Nat → Nat) (n : Nat) : Prop := ∀ a b, a < b → b < n → g a < g b
def Sam (g h : Nat → Nat) (c : Nat) : Prop := ∀ p, (∃ i, i < c ∧ g i = p) ↔ ∃ i, i < c ∧ h i = p
theorem sh_ok {g : Nat → Nat} {c i a : Nat} (hi : i < c) (ha : a ≤ i) (hj : ∀ x y, x < c → y < c → g x = g y → x = y) (hs : Srt g i) (hgt : ∀ j, a ≤ j → j < i → g i < g j) (hle : a = 0 ∨ g (a - 1) ≤ g i) : (∀ x y, x < c → y < c → sh_g g i a x = sh_g g i a y → x = y) ∧ Srt (sh_g g i a) (i + 1) ∧ Sam (sh_g g i a) g c := by
  have hlow : ∀ j, j < a → g j < g i := fun j hja => by
    have h1 : g j ≤ g (a - 1) := by
      rcases Nat.lt_or_ge j (a - 1) with q | q
      · exact Nat.le_of_lt (hs j (a - 1) q (by omega))
      · rw [show j = a - 1 by omega]; exact Nat.le_refl _
    have h2 : g (a - 1) ≤ g i := by rcases hle with q | q; omega; exact q
    have h3 : g j ≠ g i := fun e => by have := hj j i (by omega) hi e; omega
    omega
  have hsort : Srt (sh_g g i a) (i + 1) := by
    intro x y hxy hy
    unfold sh_g
    by_cases x1 : x < a
    · rw [if_pos x1]
      by_cases y1 : y < a
      · rw [if_pos y1]; exact hs x y hxy (by omega)
      · rw [if_neg y1]
        by_cases y2 : y = a
        · rw [if_pos y2]; exact hlow x x1
        · rw [if_neg y2, if_pos (by omega)]
          have := hlow x x1
          have := hgt (y - 1) (by omega) (by omega)
          omega
    · rw [if_neg x1]
      by_cases x2 : x = a
      · rw [if_pos x2, if_neg (by omega), if_neg (by omega), if_pos (by omega)]
        exact hgt (y - 1) (by omega) (by omega)
      · rw [if_neg x2, if_pos (by omega), if_neg (by omega), if_neg (by omega), if_pos (by omega)]
        exact hs (x - 1) (y - 1) (by omega) (by omega)
  have val : ∀ x, x < c → ∃ z, z < c ∧ sh_g g i a x = g z ∧ (z = if x < a then x else if x = a then i else if x ≤ i then x - 1 else x) := by
    intro x hx
    unfold sh_g
    refine ⟨if x < a then x else if x = a then i else if x ≤ i then x - 1 else x, ?_, ?_, rfl⟩
    · split
      · exact hx
      · split
        · exact hi
        · split <;> omega
    · split
      · rfl
      · split
        · rfl
        · split <;> rfl
  refine ⟨fun x y hx hy e => ?_, hsort, fun p => ⟨fun ⟨x, hx, e⟩ => ?_, fun ⟨z, hz, e⟩ => ?_⟩⟩
  · obtain ⟨z1, l1, e1, f1⟩ := val x hx
    obtain ⟨z2, l2, e2, f2⟩ := val y hy
    have hz : z1 = z2 := hj z1 z2 l1 l2 (by rw [← e1, ← e2, e])
    rw [f1, f2] at hz
    repeat' split at hz
    all_goals omega
  · obtain ⟨z, l, e1, -⟩ := val x hx
    exact ⟨z, l, by rw [← e1, e]⟩
  · by_cases z1 : z < a
    · exact ⟨z, hz, by unfold sh_g; rw [if_pos z1, e]⟩
    · by_cases z2 : z = i
      · exact ⟨a, by omega, by unfold sh_g; rw [if_neg (by omega), if_pos rfl, ← z2, e]⟩
      · by_cases z3 : z < i
        · exact ⟨z + 1, by omega, by unfold sh_g; rw [if_neg (by omega), if_neg (by omega), if_pos (by omega)]; exact e⟩
        · exact ⟨z, hz, by unfold sh_g; rw [if_neg (by omega), if_neg (by omega), if_neg (by omega), e]⟩
theorem s_sortHeads {m c : Nat} {h : Nat → Nat} {T : St} {post : St → Prop} (hH : HS m c h T) (h1 : ∀ (g : Nat → Nat) (T' : St), HS m c g T' → F1 (m + 1) T T' → Srt g c → Sam g h c → post T') : wp_X3_sortHeads m T post := by
  have hc := hH.2.1
  unfold wp_X3_sortHeads
  refine LW_gen 24 (fun t v T' => v = nI (t + 1) ∧ ∃ g, HS m c g T' ∧ F1 (m + 1) T T' ∧ (∀ a b, a < b → b < c → b < t + 1 → g a < g b) ∧ Sam g h c) ⟨rfl, h, hH, F1.rf, fun a b _ _ _ => by omega, fun p => Iff.rfl⟩ ?_
  rintro t v T2 ht ⟨rfl, g, ⟨e3, -, ha, hj⟩, hF, hs, hsam⟩ k hk
  unfold wb_X3_sortHeads_2
  rw [e3, leN (by omega) (by omega)]
  refine ⟨fun q => h1 g T2 ⟨e3, hc, ha, hj⟩ hF (fun a b hab hb => hs a b hab hb (by omega)) hsam, fun q => ⟨vin (by omega) (by omega), ?_⟩⟩
  have hic : t + 1 < c := by omega
  obtain ⟨w, hw⟩ : ∃ w, w = T2.1 (m + 1) := ⟨_, rfl⟩
  -- the inner loop
  refine LW_gen (t + 1) (fun u v T' => v = nI (t + 1 - u) ∧ T' = sa T2 (m + 1) (sh_f w (t + 1) (t + 1 - u)) ∧ ∀ j, t + 1 - u ≤ j → j < t + 1 → g (t + 1) < g j) ⟨rfl, (sa_id (by
    rw [← hw]; funext j; unfold sh_f; simp only [Nat.sub_zero]; by_cases q : j ≤ t + 1
    · rw [if_pos q]
    · rw [if_neg q, if_neg q])).symm, fun j _ _ => by omega⟩ ?_
  rintro u v T13 hu ⟨rfl, rfl, hgt⟩ kk hkk
  obtain ⟨a, ea⟩ : ∃ a, a = t + 1 - u := ⟨_, rfl⟩
  rw [← ea] at hgt ⊢
  have ha1 : a ≤ t + 1 := by omega
  have fin : (a = 0 ∨ g (a - 1) ≤ g (t + 1)) → k (nI (t + 1) + 1) (sv (sa T2 (m + 1) (sh_f w (t + 1) a)) (m + 1) (nI a).toNatClampNeg (T2.1 (m + 1) (nI (t + 1)).toNatClampNeg)) := by
    intro hle
    rw [cl (by omega), cl (by omega), sv_sa, ← hw]
    obtain ⟨g1, g2, g3⟩ := sh_ok hic ha1 hj (fun x y hxy hy => hs x y hxy (by omega) hy) hgt hle
    refine hk _ _ (by omega) ⟨nI_1 (t + 1), sh_g g (t + 1) a, ⟨by rw [sa_ne (by omega)]; exact e3, hc, fun i hi => ?_, g1⟩, hF.tr F1.sa, fun x y hxy hy hyt => g2 x y hxy hyt, fun p => (g3 p).trans (hsam p)⟩
    rw [sa_eq]
    have hv : ∀ z, z < c → g z < 256 ∧ w z = nI (g z) := fun z hz => by rw [hw]; exact ha z hz
    by_cases i1 : i = a
    · subst i1
      rw [upd_k]
      unfold sh_g
      rw [if_neg (by omega), if_pos rfl]
      exact hv _ hic
    · rw [upd_j i1]
      unfold sh_f sh_g
      by_cases i2 : i < a
      · rw [if_pos (show i ≤ a by omega), if_pos i2]; exact hv _ hi
      · rw [if_neg (show ¬ i ≤ a by omega), if_neg i2, if_neg i1]
        by_cases i3 : i ≤ t + 1
        · rw [if_pos i3, if_pos i3]; exact hv _ (by omega)
        · rw [if_neg i3, if_neg i3]; exact hv _ hi
  unfold wb_X3_sortHeads_19
  rw [n_0, leN (by omega) (by omega)]
  refine ⟨fun q => ⟨vin (by omega) (by omega), fin (Or.inl (by omega))⟩, fun q => ?_⟩
  have em : nI a - 1 = nI (a - 1) := by rw [n_1, pk_sub (by omega)]
  rw [em]
  refine ⟨vin (by omega) (by omega), ?_⟩
  rw [cl (i := a - 1) (by omega)]
  have ev : (sa T2 (m + 1) (sh_f w (t + 1) a)).1 (m + 1) (a - 1) = nI (g (a - 1)) := by
    rw [sa_eq]; unfold sh_f; rw [if_pos (by omega), hw]; exact (ha _ (by omega)).2
  have ev2 : T2.1 (m + 1) (nI (t + 1)).toNatClampNeg = nI (g (t + 1)) := by rw [cl (by omega)]; exact (ha _ hic).2
  rw [ev]
  refine ⟨fun q1 => ⟨vin (by omega) (by omega), ?_⟩, fun q1 => ⟨vin (by omega) (by omega), vin (by omega) (by omega), ?_⟩⟩
  · rw [ev2, leN (by have := (ha (a - 1) (by omega)).1; omega) (by have := (ha (t + 1) hic).1; omega)] at q1
    exact fin (Or.inr q1)
  · rw [ev2, leN (by have := (ha (a - 1) (by omega)).1; omega) (by have := (ha (t + 1) hic).1; omega)] at q1
    rw [cl (by omega), sv_sa]
    refine hkk _ _ (by omega) ⟨?_, ?_, fun j hj1 hj2 => ?_⟩
    · rw [show t + 1 - (u + 1) = a - 1 by omega]; exact sb_m1 (by omega)
    · rw [show t + 1 - (u + 1) = a - 1 by omega]
      congr 1
      funext j
      unfold upd sh_f
      by_cases j1 : j = a
      · subst j1
        rw [if_pos rfl, if_neg (by omega), if_pos (by omega), ← (ha (j - 1) (by omega)).2, ← hw]
      · rw [if_neg j1]
        by_cases j2 : j ≤ a
        · rw [if_pos j2, if_pos (show j ≤ a - 1 by omega)]
        · rw [if_neg j2, if_neg (show ¬ j ≤ a - 1 by omega)]
    · by_cases j1 : j = a - 1
      · rw [j1]; omega
      · exact hgt j (by omega) hj2
