/-! Cover.mark -/
/-- the places of a member, as far as head i, place k of it -/
def PlU (g kd : Nat → Nat) (i k p : Nat) : Prop := (∃ j, j < i ∧ ∃ d, d < ln (kd j) ∧ p = (g j + d) % 256) ∨ ∃ d, d < k ∧ p = (g i + d) % 256
/-- bit r of a row of masks is b where P holds, the rest is as it was -/
def MkB (r : Nat) (b : Bool) (P : Nat → Prop) (N : Nat) (f0 f : Nat → Int32) : Prop := ∀ p, p < N → ∀ i, i < 32 → (i ≠ r → bt (f p) i = bt (f0 p) i) ∧ (i = r → (P p → bt (f p) i = b) ∧ (¬ P p → bt (f p) i = bt (f0 p) i))
theorem MkB.rf {r : Nat} {b : Bool} {P : Nat → Prop} {N : Nat} {f : Nat → Int32} (h : ∀ p, p < N → ¬ P p) : MkB r b P N f f := fun p hp i _ => ⟨fun _ => rfl, fun _ => ⟨fun z => absurd z (h p hp), fun _ => rfl⟩⟩
theorem MkB.cg {r : Nat} {b : Bool} {P Q : Nat → Prop} {N : Nat} {f0 f : Nat → Int32} (h : MkB r b P N f0 f) (e : ∀ p, p < N → (Q p ↔ P p)) : MkB r b Q N f0 f := fun p hp i hi => ⟨(h p hp i hi).1, fun z => ⟨fun q => ((h p hp i hi).2 z).1 ((e p hp).mp q), fun q => ((h p hp i hi).2 z).2 (fun w => q ((e p hp).mpr w))⟩⟩
theorem MkB.up {r a : Nat} {b : Bool} {P Q : Nat → Prop} {N : Nat} {f0 f : Nat → Int32} {x : Int32} (hr : r < 32) (h : MkB r b P N f0 f) (hx : ∀ i, i < 32 → bt x i = if i = r then b else bt (f a) i) (hQ : ∀ p, p < N → (Q p ↔ P p ∨ p = a)) : MkB r b Q N f0 (upd f a x) := by
  intro p hp i hi
  obtain ⟨h1, h2⟩ := h p hp i hi
  by_cases e : p = a
  · subst e
    rw [upd_k, hx i hi]
    refine ⟨fun z => by rw [if_neg z]; exact h1 z, fun z => ⟨fun _ => if_pos z, fun q => absurd ((hQ p hp).mpr (Or.inr rfl)) q⟩⟩
  · rw [upd_j e]
    refine ⟨h1, fun z => ⟨fun q => (h2 z).1 (((hQ p hp).mp q).resolve_right e), fun q => (h2 z).2 (fun w => q ((hQ p hp).mpr (Or.inl w)))⟩⟩
theorem s_mark {m c r : Nat} {g kd : Nat → Nat} {b : Bool} {bI : Int32} {T : St} {post : St → Prop} (hm : 4 ≤ m) (hr : r < 32) (hbI : bI = if b then 1 else 0) (hH : HS m c g T) (hk : ∀ i, i < c → T.1 (m + 2) i = nI (kd i) ∧ kd i < 256)
    (h : ∀ f2 f3, MkB r b (PlU g kd c 0) 256 (T.1 2) f2 → MkB r b (fun y => ∃ p, p < 256 ∧ p / 16 = y ∧ PlU g kd c 0 p) 16 (T.1 3) f3 → post (sa (sa T 2 f2) 3 f3)) : wp_X1_mark (nI r) m bI T post := by
  have hc := hH.2.1
  have main : ∀ bit : Int32, (∀ i, i < 32 → bt bit i = (b && decide (i = r))) → wj_X1_mark_18 m (((1 : Int32) <<< (nI r &&& 31)) ^^^ (-1)) bit T post := by
    intro bit hbit
    have hval : ∀ (x : Int32) (i : Nat), i < 32 → bt ((x &&& (((1 : Int32) <<< (nI r &&& 31)) ^^^ (-1))) ||| bit) i = if i = r then b else bt x i := by
      intro x i hi
      rw [b_or, b_and, b_not _ hi, b_one hr hi, hbit i hi]
      by_cases e : i = r
      · subst e; simp
      · simp [e]
    unfold wj_X1_mark_18
    refine LW_cnt c (fun i T' => ∃ f2 f3, T' = sa (sa T 2 f2) 3 f3 ∧ MkB r b (PlU g kd i 0) 256 (T.1 2) f2 ∧ MkB r b (fun y => ∃ p, p < 256 ∧ p / 16 = y ∧ PlU g kd i 0 p) 16 (T.1 3) f3) ⟨T.1 2, T.1 3, by rw [sa_self, sa_self], MkB.rf (fun p _ z => by rcases z with ⟨j, hj, _⟩ | ⟨d, hd, _⟩ <;> omega), MkB.rf (fun y _ ⟨p, _, _, z⟩ => by rcases z with ⟨j, hj, _⟩ | ⟨d, hd, _⟩ <;> omega)⟩ ?_
    rintro i T' hi ⟨f2, f3, rfl, g2, g3⟩ k7 hk7
    have ro : ∀ (u v : Nat → Int32) (o : Nat), 4 ≤ o → (sa (sa T 2 u) 3 v).1 o = T.1 o := fun u v o ho => by rw [sa_ne (by omega), sa_ne (by omega)]
    unfold wb_X1_mark_23
    rw [ro _ _ m hm, hH.1, leN (by omega) (by omega)]
    refine ⟨fun q => ?_, fun q => ?_⟩
    · have : i = c := by omega
      subst this
      exact h f2 f3 g2 g3
    · have hic : i < c := by omega
      obtain ⟨k1, k2⟩ := hk i hic
      obtain ⟨gi, gv⟩ := hH.2.2.1 i hic
      have hln : ln (kd i) ≤ 2 := by unfold ln; split <;> omega
      refine LW_cnt 2 (fun k T' => k ≤ ln (kd i) ∧ ∃ f2 f3, T' = sa (sa T 2 f2) 3 f3 ∧ MkB r b (PlU g kd i k) 256 (T.1 2) f2 ∧ MkB r b (fun y => ∃ p, p < 256 ∧ p / 16 = y ∧ PlU g kd i k p) 16 (T.1 3) f3) ⟨Nat.zero_le _, f2, f3, rfl, g2, g3⟩ ?_
      rintro k T' hk2 ⟨hkl, f2, f3, rfl, g2, g3⟩ k17 hk17
      unfold wb_X1_mark_35
      refine ⟨vin (by omega) (by omega), ?_⟩
      rw [cl (by omega), ro _ _ (m + 2) (by omega), k1]
      refine s_lengthOf k2 ?_
      rw [leN (by omega) (by omega), ro _ _ (m + 1) (by omega), gv]
      refine ⟨fun q2 => ?_, fun q2 => ⟨vin (by omega) (by omega), ?_⟩⟩
      · have hk' : k = ln (kd i) := by omega
        have hpl : ∀ p, PlU g kd (i + 1) 0 p ↔ PlU g kd i k p := fun p => by
          unfold PlU
          refine ⟨fun z => ?_, fun z => ?_⟩
          · rcases z with ⟨j, hj, d, hd, e⟩ | ⟨d, hd, _⟩
            · by_cases e' : j = i
              · subst e'; exact Or.inr ⟨d, by omega, e⟩
              · exact Or.inl ⟨j, by omega, d, hd, e⟩
            · omega
          · rcases z with ⟨j, hj, d, hd, e⟩ | ⟨d, hd, e⟩
            · exact Or.inl ⟨j, by omega, d, hd, e⟩
            · exact Or.inl ⟨i, by omega, d, by omega, e⟩
        exact hk7 _ (by omega) ⟨f2, f3, rfl, g2.cg (fun p _ => hpl p), g3.cg (fun y _ => ⟨fun ⟨p, a, b', z⟩ => ⟨p, a, b', (hpl p).mp z⟩, fun ⟨p, a, b', z⟩ => ⟨p, a, b', (hpl p).mpr z⟩⟩)⟩
      · obtain ⟨a, ea⟩ : ∃ a, a = (g i + k) % 256 := ⟨_, rfl⟩
        have ha : a < 256 := by rw [ea]; exact Nat.mod_lt _ (by omega)
        rw [nI_m255 (by omega), ← ea, show nI a >>> ((4 : Int32) &&& 31) = nI (a / 16) by exact pk_shrN (by omega) _ 4 rfl]
        refine ⟨vin ha (by omega), vin ha (by omega), ?_⟩
        rintro T31 rfl
        refine ⟨vin (by omega) (by omega), vin (by omega) (by omega), ?_⟩
        rintro T34 rfl
        rw [cl (by omega), cl (i := a / 16) (by omega)]
        have hpl : ∀ p, PlU g kd i (k + 1) p ↔ PlU g kd i k p ∨ p = a := fun p => by
          unfold PlU
          refine ⟨fun z => ?_, fun z => ?_⟩
          · rcases z with z | ⟨d, hd, e⟩
            · exact Or.inl (Or.inl z)
            · by_cases e' : d = k
              · subst e'; exact Or.inr (e.trans ea.symm)
              · exact Or.inl (Or.inr ⟨d, by omega, e⟩)
          · rcases z with (z | ⟨d, hd, e⟩) | z
            · exact Or.inl z
            · exact Or.inr ⟨d, by omega, e⟩
            · exact Or.inr ⟨k, by omega, z.trans ea⟩
        refine hk17 _ (by omega) ⟨by omega, upd f2 a ((f2 a &&& (((1 : Int32) <<< (nI r &&& 31)) ^^^ (-1))) ||| bit), upd f3 (a / 16) ((f3 (a / 16) &&& (((1 : Int32) <<< (nI r &&& 31)) ^^^ (-1))) ||| bit), ?_, g2.up hr (fun j hj => hval _ j hj) (fun p _ => hpl p), g3.up hr (fun j hj => hval _ j hj) (fun y hy => ?_)⟩
        · unfold sv
          simp only [sa1, Nat.reduceEqDiff, ↓reduceIte]
          rw [sa_comm (a := 3) (b := 2) (by decide), sa_sa, sa_sa]
        · refine ⟨fun ⟨p, a1, a2, z⟩ => ?_, fun z => ?_⟩
          · rcases (hpl p).mp z with z | z
            · exact Or.inl ⟨p, a1, a2, z⟩
            · exact Or.inr (by rw [← a2, z])
          · rcases z with ⟨p, a1, a2, z⟩ | z
            · exact ⟨p, a1, a2, (hpl p).mpr (Or.inl z)⟩
            · exact ⟨a, ha, z.symm, (hpl a).mpr (Or.inr rfl)⟩
  unfold wp_X1_mark
  cases b with
  | false =>
    rw [if_neg (by decide)] at hbI
    refine ⟨fun _ => main 0 (fun i _ => by rw [b_0]; rfl), fun z => absurd hbI z⟩
  | true =>
    rw [if_pos rfl] at hbI
    refine ⟨fun z => by rw [hbI] at z; exact absurd z (by decide), fun _ => main _ (fun i hi => by rw [b_one hr hi]; rfl)⟩
/-- the places of a member are those that the model has for it -/
theorem MR.pl {m c : Nat} {g mem : Nat → Nat} {p : Nat} (hg : ∀ i, i < c → g i < 256) : PlU g (fun i => mem (g i)) c 0 p ↔ ∃ i, i < c ∧ (p = g i ∨ (hop (mem (g i)) = true ∧ p = (g i + 1) % 256)) := by
  unfold PlU
  refine ⟨fun z => ?_, fun ⟨i, hi, z⟩ => ?_⟩
  · rcases z with ⟨i, hi, d, hd, e⟩ | ⟨d, hd, _⟩
    · refine ⟨i, hi, ?_⟩
      unfold ln at hd
      split at hd
      · by_cases e' : d = 0
        · subst e'; left; rw [e]; exact Nat.mod_eq_of_lt (hg i hi)
        · right; refine ⟨by assumption, ?_⟩; rw [e, show d = 1 by omega]
      · left; rw [e, show d = 0 by omega]; exact Nat.mod_eq_of_lt (hg i hi)
    · omega
  · refine Or.inl ⟨i, hi, ?_⟩
    rcases z with z | ⟨z1, z2⟩
    · exact ⟨0, by unfold ln; split <;> omega, by rw [z]; exact (Nat.mod_eq_of_lt (hg i hi)).symm⟩
    · exact ⟨1, by unfold ln; rw [if_pos z1]; omega, z2⟩
