/-! several bytes one after the other -/
noncomputable def lkI (n g : Nat) (M : St) : Int32 := @ite _ (Lk n g M) (Classical.propDecidable _) 1 0
theorem lkI_ok (n g : Nat) (M : St) : (lkI n g M = 1 ∧ Lk n g M) ∨ (lkI n g M = 0 ∧ ¬ Lk n g M) := by
  unfold lkI
  by_cases h : Lk n g M
  · exact Or.inl ⟨@if_pos _ (Classical.propDecidable _) h _ _ _, h⟩
  · exact Or.inr ⟨@if_neg _ (Classical.propDecidable _) h _ _ _, h⟩
noncomputable def mbx (n p v : Nat) (M : St) : St := if M.1 131 p = nI v then M else bst (bec1 M p v (lkI n (p / 16) M)) p n
def cseq (C : St) (ps vs : Nat → Nat) : Nat → St
  | 0 => C
  | k + 1 => cbec 4 (ps k) (vs k) (cseq C ps vs k)
noncomputable def mseq (n : Nat) (M : St) (ps vs : Nat → Nat) : Nat → St
  | 0 => M
  | k + 1 => mbx n (ps k) (vs k) (mseq n M ps vs k)
theorem qc_mbx {lm l : Nat → Bool} {n : Nat} {mem bg : Nat → Nat} {ch : Nat} {C M : St} (h : Qc lm l n mem bg ch C M) {p v : Nat} (hp : p < 256) (hv : v < 256) :
    ∃ l' mem' ch', Qc lm l' n mem' bg ch' (cbec 4 p v C) (mbx n p v M) ∧ (mem p = v → l' = l ∧ mem' = mem ∧ ch' = ch) ∧ (mem p ≠ v → ch' = ch + 1 ∧ mem' = mu mem p v ∧ cnt (dq M p) n = cnt (drp l l') 10) ∧ (∀ i, l' i = true → l i = true) := by
  by_cases hm : mem p = v
  · refine ⟨l, mem, ch, ?_, fun _ => ⟨rfl, rfl, rfl⟩, fun z => absurd hm z, fun _ z => z⟩
    unfold mbx
    rw [cbec_same ((nIb h.2.2.2.1 hp hv).mpr hm), if_pos ((nIb h.1.2.1 hp hv).mpr hm)]
    exact h
  · obtain ⟨q1, q2⟩ := h.step hp hv hm (lkI_ok n (p / 16) M)
    refine ⟨_, _, _, ?_, fun z => absurd z hm, fun _ => ⟨rfl, rfl, q2⟩, lof_sub⟩
    unfold mbx
    rw [if_neg (fun z => hm ((nIb h.1.2.1 hp hv).mp z))]
    exact q1
theorem cseq_ne {C : St} {ps vs : Nat → Nat} {j : Nat} (h1 : j ≠ 4) (h2 : j ≠ 5) : ∀ k, (cseq C ps vs k).1 j = C.1 j
  | 0 => rfl
  | k + 1 => by show (cbec 4 _ _ _).1 j = _; rw [cbec_ne h1 h2, cseq_ne h1 h2 k]
theorem cseq_43 {C : St} {ps vs : Nat → Nat} : ∀ k, (cseq C ps vs k).1 4 3 = C.1 4 3
  | 0 => rfl
  | k + 1 => by show (cbec 4 _ _ _).1 4 3 = _; rw [cbec_f3, cseq_43 k]
theorem cseq_2 {C : St} {ps vs : Nat → Nat} : ∀ k, (cseq C ps vs k).2 = C.2
  | 0 => rfl
  | k + 1 => by show (cbec 4 _ _ _).2 = _; rw [cbec_2, cseq_2 k]
theorem seq_q {lm l : Nat → Bool} {n : Nat} {mem bg : Nat → Nat} {ch : Nat} {C M : St} (h : Qc lm l n mem bg ch C M) {ps vs : Nat → Nat} (N : Nat) (hpv : ∀ k, k < N → ps k < 256 ∧ vs k < 256) : ∀ k, k ≤ N → ∃ lk mk ck, Qc lm lk n mk bg ck (cseq C ps vs k) (mseq n M ps vs k) ∧ ck ≤ ch + k ∧ ch ≤ ck
  | 0, _ => ⟨l, mem, ch, h, by omega, by omega⟩
  | k + 1, hk => by
    obtain ⟨lk, mk, ck, q, hc, hc2⟩ := seq_q h N hpv k (by omega)
    obtain ⟨l', m', c', q', e1, e2, -⟩ := qc_mbx q (hpv k (by omega)).1 (hpv k (by omega)).2
    refine ⟨l', m', c', q', ?_, ?_⟩
    · by_cases hm : mk (ps k) = vs k
      · rw [(e1 hm).2.2]; omega
      · rw [(e2 hm).1]; omega
    · by_cases hm : mk (ps k) = vs k
      · rw [(e1 hm).2.2]; omega
      · rw [(e2 hm).1]; omega
/-- the cells that becomes leaves alone -/
def Fb (N M : St) : Prop := (∀ j, j < 130 ∨ 141 < j → M.1 j = N.1 j) ∧ (∀ j, j ≠ 13 → j ≠ 15 → M.1 130 j = N.1 130 j) ∧ M.2 = N.2
theorem Fb.rf {N : St} : Fb N N := ⟨fun _ _ => rfl, fun _ _ _ => rfl, rfl⟩
theorem Fb.tr {N M M' : St} (h : Fb N M) (h2 : Fb M M') : Fb N M' := ⟨fun j a => (h2.1 j a).trans (h.1 j a), fun j a b => (h2.2.1 j a b).trans (h.2.1 j a b), h2.2.2.trans h.2.2⟩
/-- becomes on a store M that holds what the ghost M0 holds -/
theorem s_bec {lm l : Nat → Bool} {n : Nat} {mem bg : Nat → Nat} {ch : Nat} {C M0 M : St} {post : Int32 → St → Prop} (h : Qc lm l n mem bg ch C M0) (em : EqM M0 M) {p v : Nat} (hp : p < 256) (hv : v < 256)
    (h1 : mem p = v → EqM (mbx n p v M0) M → post (-1) M) (h2 : mem p ≠ v → ∀ M', EqM (mbx n p v M0) M' → Fb M M' → post (nI (cnt (dq M0 p) n)) M') : wp_X7_becomes (nI p) (nI v) M post := by
  have hM := h.1.mod em
  refine s_becomes hM.1.1 hp hM.1.2.2 (fun r hr hz q hq => hM.b01 hr (hM.2.2.2.2.1 r ((hM.has hr).mp hz)) q hq) (fun he => ?_) (fun lk hne hlk => ?_)
  · have hm := (nIb hM.2.1 hp hv).mp he
    refine h1 hm ?_
    unfold mbx
    rw [if_pos ((nIb h.1.2.1 hp hv).mpr hm)]
    exact em
  · have hm : mem p ≠ v := fun z => hne ((nIb hM.2.1 hp hv).mpr z)
    have e := lk_un em (lkI_ok n (p / 16) M0) hlk
    rw [cnt_congr (f := dq M p) (g := dq M0 p) (fun r _ => dq_eq em p r)]
    refine h2 hm _ ?_ ⟨fun j hj => bb_ne hj, fun j a b => bb_130 a b, bb_2⟩
    unfold mbx
    rw [if_neg (fun z => hm ((nIb h.1.2.1 hp hv).mp z)), e]
    exact bb_eq em p v n _
