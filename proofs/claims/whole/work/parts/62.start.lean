/-! the beginning -/
theorem T0_5 {r : Nat} (h : r < 10) : T0.1 (27 + 9 * r) = fun k => if k = 1 then 1 else 0 := funext fun k => by
  have : ko (27 + 9 * r) = 5 := by revert r; decide
  show (if ko (27 + 9 * r) = 5 ∧ k = 1 then (1 : Int32) else 0) = _
  by_cases q : k = 1
  · rw [if_pos ⟨this, q⟩, if_pos q]
  · rw [if_neg (fun z => q z.2), if_neg q]
theorem rel_0 : Rel 0 T0 T0 := by
  have z : ∀ o, o < 152 → ko o ≠ 5 → ∀ k, T0.1 o k = 0 := fun o _ h k => by rw [T0_z h]
  have b0 : ∀ {P : Prop} (r : Nat), r < 0 → P := fun r h => absurd h (Nat.not_lt_zero _)
  refine ⟨fun _ => false, 0, fun _ => 0, fun _ => 0, 0, fun _ _ => 0, 0, 0, fun _ _ => 0, ⟨⟨⟨by omega, z 0 (by omega) (by decide) 9, z 130 (by omega) (by decide) 2⟩, fun p _ => ⟨z 131 (by omega) (by decide) p, Nat.zero_lt_succ _⟩, fun r hr => Or.inl ?_, fun r h => b0 r h, fun _ h => (by cases h), fun _ h => (by cases h), fun r h => b0 r h, fun r h => b0 r h, fun r h => b0 r h, fun r h => b0 r h, fun p _ r _ => ?_, fun g _ r _ => ?_⟩, ?_, fun i _ => ?_, fun p _ => ⟨z 5 (by omega) (by decide) p, Nat.zero_lt_succ _⟩, ?_⟩, ⟨by omega, by omega, z 7 (by omega) (by decide) 2, z 7 (by omega) (by decide) 1, fun k h => b0 k h⟩, ⟨z 130 (by omega) (by decide) 21, fun k h => b0 k h⟩, ⟨by omega, z 0 (by omega) (by decide) 10, fun k h => b0 k h⟩, ⟨z 130 (by omega) (by decide) 19, fun k h => b0 k h⟩, ?_⟩
  · rw [T0_5 hr]; exact ⟨rfl, rfl⟩
  · rw [z 2 (by omega) (by decide) p, b_0]
    exact ⟨fun h => (by cases h), fun h => b0 r h.1⟩
  · rw [z 3 (by omega) (by decide) g, b_0]
    exact ⟨fun h => (by cases h), fun h => b0 r h.1⟩
  · unfold DC
    rw [z 130 (by omega) (by decide), z 0 (by omega) (by decide), show cnt (drp (fun _ => false) (fun _ => false)) 10 = 0 from rfl]
    rfl
  · rw [z 4 (by omega) (by decide), b_0]
  · rw [z 4 (by omega) (by decide), z 130 (by omega) (by decide)]
  · refine ⟨?_, ?_, ⟨?_, ?_, ?_, ?_, ?_, ?_, ?_, ?_, ?_⟩, 0, 0, by omega, ?_, ?_, rfl, rfl⟩ <;> simp only [z 0 (by omega) (by decide), z 130 (by omega) (by decide), z 145 (by omega) (by decide), z 117 (by omega) (by decide)] <;> rfl
abbrev X152 (G : Gm) : Nat → va_E := ux (bk G (ux (c6 G [.ref (G.2.2 1), .ref (G.2.2 4), .ref (G.2.2 6), .ref (G.2.2 7), .ref (G.2.2 18), .ref (G.2.2 117), .ref (G.2.2 120), .ref (G.2.2 125), .ref (G.2.2 23), .int 0, .int 0, .int 0, .int 0, .int 0, .int 0, .int 0] (rfr G 10)) 130 (.inr (7, d7))) 130 21) 151 (.inl (G.2.1 4, 1, .inr (.inl (fun _ => 0))))
theorem px_sy {G : Gm} {H : Heap} (h : PX G 152 (X152 G) H) : va_P G.1 sc_cl (wd G T0) H := by
  intro k q hq
  have hq' : (wx G 152 (pic G T0))[k]? = some q := hq
  obtain ⟨hk, rfl⟩ := wx_le hq'
  have h1 := h.2 k _ (wx_at hk)
  unfold X152 at h1
  by_cases e1 : k = 151
  · subst e1; rw [ux_k] at h1; exact h1
  rw [ux_j e1] at h1
  unfold bk at h1
  by_cases e2 : 130 ≤ k ∧ k < 130 + 21
  · rw [if_pos e2] at h1; exact h1
  rw [if_neg e2, ux_j (by omega)] at h1
  unfold c6 at h1
  by_cases e3 : k = 0
  · subst e3
    rw [if_pos rfl] at h1
    have : pic G T0 0 = .inr (6, [.ref (G.2.2 1), .ref (G.2.2 4), .ref (G.2.2 6), .ref (G.2.2 7), .ref (G.2.2 18), .ref (G.2.2 117), .ref (G.2.2 120), .ref (G.2.2 125), .ref (G.2.2 23), .int 0, .int 0, .int 0, .int 0, .int 0, .int 0, .int 0]) := by
      simp [pic, pi, show ko 0 = 6 from rfl, nf, fv, fk, rc, T0_z (o := 0) (by decide), List.range_succ]
    rw [this]; exact h1
  rw [if_neg e3] at h1
  by_cases e4 : k = 6
  · subst e4
    rw [if_pos rfl] at h1
    refine at_q (f := rfr G 10) (g := fun j => some (G.2.2 (rc 12 6 j 0))) (N := 10) (fun j hj => ?_) h1
    unfold rfr
    rw [if_pos hj]; rfl
  rw [if_neg e4] at h1; exact h1
