/-! one byte more within a call -/
theorem cbec_ne {o p v i : Nat} {C : St} (h1 : i ≠ o) (h2 : i ≠ o + 1) : (cbec o p v C).1 i = C.1 i := by
  unfold cbec
  split
  · rfl
  · rw [sv_ne h1, sv_ne h1, sv_ne h2]
    split
    · rfl
    · rw [sv_ne h1]
theorem cbec_2 {o p v : Nat} {C : St} : (cbec o p v C).2 = C.2 := by
  unfold cbec
  split
  · rfl
  · rw [sv2, sv2, sv2]
    split
    · rfl
    · rfl
theorem cbec_same {o p v : Nat} {C : St} (h : C.1 (o + 1) p = nI v) : cbec o p v C = C := if_pos h
theorem cbec_by {o p v : Nat} {C : St} (h : C.1 (o + 1) p ≠ nI v) : (cbec o p v C).1 (o + 1) = upd (C.1 (o + 1)) p (nI v) := by
  unfold cbec
  rw [if_neg h, sv_ne (by omega), sv_ne (by omega), sv_eq]
  split
  · rfl
  · rw [sv_ne (by omega)]
theorem cbec_f2 {o p v : Nat} {C : St} (h : C.1 (o + 1) p ≠ nI v) : (cbec o p v C).1 o 2 = C.1 o 2 &&& (C.1 2 p ^^^ (-1)) := by
  unfold cbec; rw [if_neg h, sv_k]
theorem cbec_f5 {o p v : Nat} {C : St} (h : C.1 (o + 1) p ≠ nI v) : (cbec o p v C).1 o 5 = C.1 o 5 + 1 := by
  unfold cbec; rw [if_neg h, sv_j (by decide), sv_k]
theorem cbec_f3 {o p v : Nat} {C : St} : (cbec o p v C).1 o 3 = C.1 o 3 := by
  unfold cbec
  split
  · rfl
  · rw [sv_j (by decide), sv_j (by decide), sv_ne (by omega)]
    split
    · rfl
    · rw [sv_j (by decide)]
theorem cbec_f4 {o p v : Nat} {C : St} (h : C.1 (o + 1) p ≠ nI v) : (cbec o p v C).1 o 4 = if C.1 3 (p / 16) &&& C.1 o 2 = 0 then C.1 o 4 else C.1 o 4 + 1 := by
  unfold cbec
  rw [if_neg h, sv_j (by decide), sv_j (by decide), sv_ne (by omega)]
  split
  · rfl
  · rw [sv_k]
def Qc (lm l : Nat → Bool) (n : Nat) (mem bg : Nat → Nat) (ch : Nat) (C M : St) : Prop :=
  RM lm l n mem bg C M ∧ DC lm l C M ∧ (∀ i, i < 32 → bt (C.1 4 2) i = l i) ∧ By 5 mem C ∧ C.1 4 4 = M.1 130 13 ∧ C.1 4 5 = nI ch
theorem nIb {q : Nat} {mem : Nat → Nat} {T : St} (h : By q mem T) {p v : Nat} (hp : p < 256) (hv : v < 256) : T.1 q p = nI v ↔ mem p = v := by
  obtain ⟨h1, h2⟩ := h p hp
  rw [h1, nIe (by omega) (by omega)]
theorem Qc.step {lm l : Nat → Bool} {n : Nat} {mem bg : Nat → Nat} {ch : Nat} {C M : St} (h : Qc lm l n mem bg ch C M) {p v : Nat} (hp : p < 256) (hv : v < 256) (hne : mem p ≠ v) {lk : Int32} (hlk : (lk = 1 ∧ Lk n (p / 16) M) ∨ (lk = 0 ∧ ¬ Lk n (p / 16) M)) :
    Qc lm (lof l C p) n (mu mem p v) bg (ch + 1) (cbec 4 p v C) (bst (bec1 M p v lk) p n) ∧ cnt (dq M p) n = cnt (drp l (lof l C p)) 10 := by
  obtain ⟨hR, hD, hL, hB, hlo, hch⟩ := h
  have hne' : C.1 (4 + 1) p ≠ nI v := fun z => hne ((nIb hB hp hv).mp z)
  obtain ⟨r1, r2⟩ := hR.bec hp hv lk
  refine ⟨⟨r1.cls (by rw [cbec_ne (by decide) (by decide)]) (fun i hi => cbec_ne (by omega) (by omega)), ?_, fun i hi => ?_, fun q hq => ?_, ?_, ?_⟩, r2⟩
  · have := DC.bec hR hD hp hv lk
    unfold DC at this ⊢
    rw [cbec_ne (by decide) (by decide)]
    exact this
  · rw [cbec_f2 hne', b_and, b_not _ hi, hL i hi]; rfl
  · show (cbec 4 p v C).1 (4 + 1) q = _ ∧ _
    rw [cbec_by hne']
    by_cases e : q = p
    · subst e; rw [upd_k, mu_k]; exact ⟨rfl, hv⟩
    · rw [upd_j e, mu_j e]; exact hB q hq
  · rw [cbec_f4 hne', bst_130, upd_j (by decide), show (bec1 M p v lk).1 130 13 = M.1 130 13 + lk by unfold bec1; rw [sv_ne (by decide), sv_k], hlo]
    have hlk2 := hR.lk (L := C.1 4 2) hL (g := p / 16) (by omega)
    rcases hlk with ⟨rfl, hk⟩ | ⟨rfl, hk⟩
    · rw [if_neg (hlk2.mp hk)]
    · rw [if_pos (Classical.byContradiction (fun z => hk (hlk2.mpr z)))]
      exact (Int32.add_zero _).symm
  · rw [cbec_f5 hne', hch, nI_1]
/-! what the model's rows are apart from cells that don't matter -/
def EqM (M M' : St) : Prop := (∀ i, 131 ≤ i → i ≤ 141 → M'.1 i = M.1 i) ∧ (∀ j, j = 2 ∨ j = 13 ∨ j = 15 → M'.1 130 j = M.1 130 j)
theorem EqM.rf {M : St} : EqM M M := ⟨fun _ _ _ => rfl, fun _ _ => rfl⟩
theorem EqM.tr {M M' M'' : St} (h : EqM M M') (h2 : EqM M' M'') : EqM M M'' := ⟨fun i a b => (h2.1 i a b).trans (h.1 i a b), fun j a => (h2.2 j a).trans (h.2 j a)⟩
theorem EqM.sy {M M' : St} (h : EqM M M') : EqM M' M := ⟨fun i a b => (h.1 i a b).symm, fun j a => (h.2 j a).symm⟩
theorem RM.mod {lm l : Nat → Bool} {n : Nat} {mem bg : Nat → Nat} {C M M' : St} (h : RM lm l n mem bg C M) (e : EqM M M') : RM lm l n mem bg C M' := by
  have er : ∀ a r, 131 ≤ a → a ≤ 141 → row M' a r = row M a r := fun a r h1 h2 => by unfold row; rw [e.1 a h1 h2]
  obtain ⟨⟨a1, a2, a3⟩, a4, a5, a6, a7, a8, a9, a10, a11, a12, a13, a14⟩ := h
  refine ⟨⟨a1, a2, by rw [e.2 2 (Or.inl rfl)]; exact a3⟩, fun p hp => by rw [e.1 131 (by omega) (by omega)]; exact a4 p hp, a5, fun r hr => by rw [e.1 132 (by omega) (by omega)]; exact a6 r hr, a7, a8, fun r hr => by rw [e.1 133 (by omega) (by omega)]; exact a9 r hr, fun r hr hb => ?_, fun r hr hb => ?_, fun r hr => ?_, fun p hp r hr => ?_, fun g hg r hr => ?_⟩
  · rw [er 134 r (by omega) (by omega), er 135 r (by omega) (by omega), er 136 r (by omega) (by omega)]; exact a10 r hr hb
  · rw [er 135 r (by omega) (by omega), er 136 r (by omega) (by omega)]; exact a11 r hr hb
  · rw [e.1 137 (by omega) (by omega), e.1 138 (by omega) (by omega), er 134 r (by omega) (by omega), er 135 r (by omega) (by omega), er 136 r (by omega) (by omega), er 139 r (by omega) (by omega), er 140 r (by omega) (by omega), er 141 r (by omega) (by omega)]; exact a12 r hr
  · rw [er 135 r (by omega) (by omega)]; exact a13 p hp r hr
  · rw [er 135 r (by omega) (by omega)]; exact a14 g hg r hr
theorem Qc.mod {lm l : Nat → Bool} {n : Nat} {mem bg : Nat → Nat} {ch : Nat} {C M M' : St} (h : Qc lm l n mem bg ch C M) (e : EqM M M') : Qc lm l n mem bg ch C M' := ⟨h.1.mod e, by have := h.2.1; unfold DC at this ⊢; rw [e.2 15 (by omega)]; exact this, h.2.2.1, h.2.2.2.1, by rw [e.2 13 (by omega)]; exact h.2.2.2.2.1, h.2.2.2.2.2⟩
theorem dropM_eq {M M' : St} (h : EqM M M') (r : Nat) : EqM (dropM r M) (dropM r M') := by
  have e := fun i a b => h.1 i a b
  refine ⟨fun i a b => ?_, fun j hj => ?_⟩
  · rcases (show i = 131 ∨ i = 132 ∨ i = 133 ∨ i = 134 ∨ i = 135 ∨ i = 136 ∨ i = 137 ∨ i = 138 ∨ i = 139 ∨ i = 140 ∨ i = 141 by omega) with rfl | rfl | rfl | rfl | rfl | rfl | rfl | rfl | rfl | rfl | rfl
    · rw [dropM_ne (by omega), dropM_ne (by omega)]; exact e _ a b
    · rw [dropM_ne (by omega), dropM_ne (by omega)]; exact e _ a b
    · rw [dropM_133, dropM_133, e _ a b]
    · rw [dropM_ne (by omega), dropM_ne (by omega)]; exact e _ a b
    · rw [dropM_ne (by omega), dropM_ne (by omega)]; exact e _ a b
    · rw [dropM_ne (by omega), dropM_ne (by omega)]; exact e _ a b
    · rw [dropM_137, dropM_137, e _ a b]
    · rw [dropM_138, dropM_138, e _ a b]
    · rw [dropM_139, dropM_139, e _ a b, e 134 (by omega) (by omega)]
    · rw [dropM_140, dropM_140, e _ a b, e 135 (by omega) (by omega)]
    · rw [dropM_141, dropM_141, e _ a b, e 136 (by omega) (by omega)]
  · rw [dropM_130, dropM_130]
    unfold upd
    by_cases q : j = 15
    · rw [if_pos q, if_pos q, h.2 15 (by omega)]
    · rw [if_neg q, if_neg q]; exact h.2 j hj
theorem dq_eq {M M' : St} (h : EqM M M') (p r : Nat) : dq M' p r = dq M p r := by unfold dq; rw [h.1 133 (by omega) (by omega), h.1 135 (by omega) (by omega)]
theorem bst_eq {M M' : St} (h : EqM M M') (p : Nat) : ∀ r, EqM (bst M p r) (bst M' p r)
  | 0 => h
  | r + 1 => by
    unfold bst
    rw [dq_eq h]
    split
    · exact dropM_eq (bst_eq h p r) r
    · exact bst_eq h p r
theorem bec1_130 {M : St} {p v : Nat} {lk : Int32} : (bec1 M p v lk).1 130 = upd (M.1 130) 13 (M.1 130 13 + lk) := by unfold bec1; rw [sv_ne (by decide), sv_eq]
theorem bec1_eq {M M' : St} (h : EqM M M') (p v : Nat) (lk : Int32) : EqM (bec1 M p v lk) (bec1 M' p v lk) := by
  refine ⟨fun i a b => ?_, fun j hj => ?_⟩
  · unfold bec1
    by_cases q : i = 131
    · subst q; rw [sv_eq, sv_eq, sv_ne (by decide), sv_ne (by decide), h.1 131 (by omega) (by omega)]
    · rw [sv_ne q, sv_ne q, sv_ne (by omega), sv_ne (by omega)]; exact h.1 i a b
  · rw [bec1_130, bec1_130]
    by_cases q : j = 13
    · subst q; rw [upd_k, upd_k, h.2 13 (by omega)]
    · rw [upd_j q, upd_j q]; exact h.2 j hj
theorem Lk_eq {M M' : St} (h : EqM M M') (n g : Nat) : Lk n g M' ↔ Lk n g M := by unfold Lk; rw [h.1 133 (by omega) (by omega), h.1 135 (by omega) (by omega)]
