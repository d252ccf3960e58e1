/-! run -/
theorem s_act {l lk : Nat → Bool} {n N : Nat} {bg : Nat → Nat} {ck : Nat} {s : Ab} {C M U : St} {post : Int32 → St → Prop} (hW : WF n s) (c0 : aF s = 0) (hC : aC s < 1000) (hN : N ≤ 400) (hne : aC s ≠ N) (q : Qc l lk n (aM s) bg ck C M) (em : EqM M U) (h : MCx s U) (h37 : U.1 130 37 = nI (cnt (drp l lk) 10)) (h38 : U.1 130 38 = nI ck)
    (hp : ∀ U' l' ck', Qc l l' n (aM (nxt n bg s)) bg ck' (cbec 4 (awr s).1 (awr s).2 C) (mbx n (awr s).1 (awr s).2 M) → ck' ≤ ck + 1 → EqM (mbx n (awr s).1 (awr s).2 M) U' → MCx (nxt n bg s) U' → FA U U' → ((¬ 12 < kd s ∧ Bm 4 C s) → U'.1 130 36 = U.1 130 36 + 1) → (¬ (¬ 12 < kd s ∧ Bm 4 C s) → U'.1 130 36 = U.1 130 36) → U'.1 130 37 = nI (cnt (drp l l') 10) → U'.1 130 38 = nI ck' → post (cd (aF (nxt n bg s))) U') : wp_X7_act (nI N) U post := by
  obtain ⟨w1, w2, w3, w4, w5, w6, w7⟩ := id hW
  have hn := q.1.1.1
  have hrw : rW s < n := w4 _ (by omega)
  have hB : By 131 (aM s) U := (q.1.mod em).2.1
  obtain ⟨⟨r30, r31, r32, r33, r34, r39, r35⟩, rs⟩ := id h
  have hBm := Bm_mod q hrw w1
  unfold wp_X7_act
  rw [r35, nIe (by omega) (by omega), r32, cl (by omega), (hB _ w1).1]
  refine ⟨fun _ => ⟨vin w1 (by omega), fun hk => ?_, fun hk => ?_⟩, fun z => absurd z hne⟩
  · have c1 : ¬ 12 < kd s := by
      have : kd s < 256 := w6 _ w1
      have e : aM s (aP s) = kd s := rfl
      rw [e, n_12, leN (by omega) (by omega)] at hk; omega
    rw [nI_1]
    obtain ⟨V, eV⟩ : ∃ V, V = sv U 130 35 (nI (aC s + 1)) := ⟨_, rfl⟩
    rw [← eV]
    have v130 : ∀ j, j ≠ 35 → V.1 130 j = U.1 130 j := fun j hj => by rw [eV, sv_j hj]
    have vj : ∀ j, j ≠ 130 → V.1 j = U.1 j := fun j hj => by rw [eV, sv_ne hj]
    have emV : EqM M V := by rw [eV]; exact em.sv ⟨by decide, by decide, by decide⟩
    have fV : FA U V := by rw [eV]; exact FA.sv ⟨by omega, by omega⟩
    have h81 : P81 s V := ⟨⟨by rw [v130 30 (by decide)]; exact r30, by rw [v130 31 (by decide)]; exact r31, by rw [v130 32 (by decide)]; exact r32, by rw [v130 33 (by decide)]; exact r33, by rw [v130 34 (by decide)]; exact r34, by rw [v130 39 (by decide)]; exact r39, by rw [eV, sv_k]⟩, fun j j1 j2 => by rw [vj 150 (by decide), vj 149 (by decide)]; exact rs j j1 j2⟩
    have no : ¬ Bm 4 C s → wj_X7_act_80 (nI (aM s (aP s))) (V.1 130 36) V post := fun hb => by
      unfold wj_X7_act_80
      exact s_act81 hW c0 c1 q emV h81 (by rw [v130 37 (by decide)]; exact h37) (by rw [v130 38 (by decide)]; exact h38) (fun U' l' ck' a1 a0 a2 a3 a4 a5 a6 a7 => hp U' l' ck' a1 a0 a2 a3 (fV.tr a4) (fun z => absurd z.2 hb) (fun _ => by rw [a5, v130 36 (by decide)]; exact Int32.add_zero _) a6 a7)
    have yes : Bm 4 C s → wj_X7_act_81 (nI (aM s (aP s))) 1 (V.1 130 36) V post := fun hb => s_act81 hW c0 c1 q emV h81 (by rw [v130 37 (by decide)]; exact h37) (by rw [v130 38 (by decide)]; exact h38) (fun U' l' ck' a1 a0 a2 a3 a4 a5 a6 a7 => hp U' l' ck' a1 a0 a2 a3 (fV.tr a4) (fun _ => by rw [a5, v130 36 (by decide)]) (fun z => absurd ⟨c1, hb⟩ z) a6 a7)
    rw [v130 33 (by decide), r33, v130 32 (by decide), r32, cl (by omega), emV.1 133 (by omega) (by omega), ix256, cl (by omega), emV.1 134 (by omega) (by omega)]
    exact ⟨vin (by omega) (by omega), fun z => no (fun b => (hBm.mp b).1 z), fun z => ⟨vin (by omega) (by omega), fun z2 => no (fun b => (hBm.mp b).2 z2), fun z2 => yes (hBm.mpr ⟨z, z2⟩)⟩⟩
  · have c1 : 12 < kd s := by
      have : kd s < 256 := w6 _ w1
      have e : aM s (aP s) = kd s := rfl
      rw [e, n_12, leN (by omega) (by omega)] at hk; omega
    have hk5 : aF s = 0 → kd s ≠ 5 ∧ kd s ≠ 11 := fun _ => by omega
    have e1 : mbx n (awr s).1 (awr s).2 M = M := by rw [awr_no hk5]; unfold mbx; rw [if_pos (q.1.2.1 0 (by omega)).1]
    have en := nxt_bad (n := n) (bg := bg) c0 c1
    have hcd : cd (aF (nxt n bg s)) = 1 := by rw [en]; show cd (-1) = 1; decide
    have := hp U lk ck (by rw [e1, cbec_no q.2.2.2.1 hk5, nxt_M, awr_no hk5, mu_same]; exact q) (by omega) (by rw [e1]; exact em) (by rw [en]; exact h) FA.rf (fun z => absurd c1 z.1) (fun _ => rfl) h37 h38
    rw [hcd] at this
    exact this
theorem cseqm_4 {C : St} {ps vs : Nat → Nat} : ∀ k, cseqm 4 C ps vs k = cseq C ps vs k
  | 0 => rfl
  | k + 1 => by show cbec 4 _ _ (cseqm 4 C ps vs k) = cbec 4 _ _ (cseq C ps vs k); rw [cseqm_4 k]
theorem Qc.cls {lm l : Nat → Bool} {n : Nat} {mem bg : Nat → Nat} {ch : Nat} {C C' M : St} (h : Qc lm l n mem bg ch C M) (e : ∀ i, i = 0 ∨ i = 2 ∨ i = 3 ∨ i = 4 ∨ i = 5 ∨ (27 ≤ i ∧ i < 117) → C'.1 i = C.1 i) : Qc lm l n mem bg ch C' M := by
  obtain ⟨a, b, c, d, f, g⟩ := h
  refine ⟨a.cls (by rw [e 0 (by omega)]) (fun i hi => e i (by omega)), ?_, fun i hi => by rw [e 4 (by omega)]; exact c i hi, fun p hp => by rw [e 5 (by omega)]; exact d p hp, by rw [e 4 (by omega)]; exact f, by rw [e 4 (by omega)]; exact g⟩
  unfold DC at b ⊢
  rw [e 0 (by omega)]; exact b
/-- memory and members at step k -/
theorem run_q {l : Nat → Bool} {n : Nat} {bg : Nat → Nat} {s : Ab} {C M : St} (hW : WF n s) (hb : ∀ r, r < n → bg r < 256) (q : Qc l l n (aM s) bg 0 C M) : ∀ k, ∃ lk ck, Qc l lk n (aM (its n bg s k)) bg ck (cseqm 4 C (xwP n bg s) (xwV n bg s) k) (mseq n M (xwP n bg s) (xwV n bg s) k) ∧ ck ≤ k
  | 0 => ⟨l, 0, q, Nat.le_refl _⟩
  | k + 1 => by
    obtain ⟨lk, ck, qk, hck⟩ := run_q hW hb q k
    have hw := awr_lt (wf_its hW hb k)
    obtain ⟨l', m', c', q', f1, f2, -⟩ := qc_mbx qk hw.1 hw.2
    refine ⟨l', c', ?_, ?_⟩
    · show Qc l l' n (aM (nxt n bg (its n bg s k))) bg c' (cbec 4 _ _ _) (mbx n _ _ _)
      rw [nxt_M]
      by_cases hm : aM (its n bg s k) (awr (its n bg s k)).1 = (awr (its n bg s k)).2
      · obtain ⟨e1, e2, e3⟩ := f1 hm
        rw [e2] at q'
        rw [← hm, mu_same]; exact q'
      · rw [(f2 hm).2.1] at q'; exact q'
    · by_cases hm : aM (its n bg s k) (awr (its n bg s k)).1 = (awr (its n bg s k)).2
      · rw [(f1 hm).2.2]; omega
      · rw [(f2 hm).1]; omega
theorem mseq_end {n : Nat} {bg : Nat → Nat} {s : Ab} {M : St} {k : Nat} (h : ¬ aF (its n bg s k) = 0) (hB : By 131 (aM (its n bg s k)) (mseq n M (xwP n bg s) (xwV n bg s) k)) : ∀ j, mseq n M (xwP n bg s) (xwV n bg s) (k + j) = mseq n M (xwP n bg s) (xwV n bg s) k
  | 0 => rfl
  | j + 1 => by
    show mbx n (awr (its n bg s (k + j))).1 (awr (its n bg s (k + j))).2 (mseq n M (xwP n bg s) (xwV n bg s) (k + j)) = _
    rw [mseq_end h hB j, its_end h j, awr_no (fun z => absurd z h)]
    unfold mbx
    rw [if_pos (hB 0 (by omega)).1]
/-- the model at step k -/
def MS (l : Nat → Bool) (n : Nat) (bg : Nat → Nat) (s : Ab) (C M N0 : St) (k : Nat) (U : St) : Prop := EqM (mseq n M (xwP n bg s) (xwV n bg s) k) U ∧ MCx (its n bg s k) U ∧ FA N0 U ∧ U.1 130 36 = nI (mbs 4 n bg s C k) ∧ ∃ lk ck, Qc l lk n (aM (its n bg s k)) bg ck (cseqm 4 C (xwP n bg s) (xwV n bg s) k) (mseq n M (xwP n bg s) (xwV n bg s) k) ∧ ck ≤ k ∧ U.1 130 37 = nI (cnt (drp l lk) 10) ∧ U.1 130 38 = nI ck
theorem MS.fin {l : Nat → Bool} {n k N : Nat} {bg : Nat → Nat} {s : Ab} {C M N0 U : St} (h : MS l n bg s C M N0 k U) (hf : ¬ aF (its n bg s k) = 0) (hk : k ≤ N) : MS l n bg s C M N0 N U := by
  obtain ⟨h1, h2, h3, h4, lk, ck, h5, h6, h7⟩ := h
  obtain ⟨j, rfl⟩ : ∃ j, N = k + j := ⟨N - k, by omega⟩
  unfold MS
  rw [its_end hf j, mseq_end hf h5.1.2.1 j, mbs_end hf j, cseqm_end hf h5.2.2.2.1 j]
  exact ⟨h1, h2, h3, h4, lk, ck, h5, by omega, h7⟩
theorem cd_0 {n : Nat} {s : Ab} (h : WF n s) : cd (aF s) = 0 ↔ aF s = 0 := by
  rcases h.2.2.2.2.2.2 with e | e | e | e | e <;> rw [e] <;> decide
theorem cd_r {n : Nat} {s : Ab} (h : WF n s) (hf : ¬ aF s = 0) : (¬ cd (aF s) = 5 → -cd (aF s) = aF s) ∧ (cd (aF s) = 5 → 1 = aF s) := by
  rcases h.2.2.2.2.2.2 with e | e | e | e | e
  · exact absurd e hf
  all_goals (rw [e]; decide)
theorem s_mrun {l : Nat → Bool} {n N r : Nat} {bg mem : Nat → Nat} {a b : Int32} {C M T : St} {post : Int32 → St → Prop} (hr : r < n) (hN1 : 1 ≤ N) (hN : N ≤ 400) (hW : WF n (st0 a b r mem bg)) (hb : ∀ r, r < n → bg r < 256) (q : Qc l l n mem bg 0 C M) (em : EqM M (sv T 130 0 0))
    (hp : ∀ f U v, (∀ p, p < 256 → f p = nI (mem p)) → MS l n bg (st0 a b r mem bg) C M (sa (sv T 130 0 0) 144 f) N U → ((¬ v = 5 → -v = (if aF (its n bg (st0 a b r mem bg) N) = 0 then -4 else aF (its n bg (st0 a b r mem bg) N))) ∧ (v = 5 → 1 = (if aF (its n bg (st0 a b r mem bg) N) = 0 then -4 else aF (its n bg (st0 a b r mem bg) N)))) → (U.1 130 38 ≤ 0 → wj_X7_run_119 v U post) ∧ (¬ U.1 130 38 ≤ 0 → wp_X7_keep U (fun T40 => wj_X7_run_119 v T40 post))) : wp_X7_run (nI r) a b (nI N) T post := by
  have hn := q.1.1.1
  obtain ⟨s, es⟩ : ∃ s, s = st0 a b r mem bg := ⟨_, rfl⟩
  rw [← es] at hW hp
  have hC0 : aC s = 0 := by rw [es]; rfl
  have hF0 : aF s = 0 := by rw [es]; rfl
  unfold wp_X7_run
  refine s_isR_ok (by rw [em.2 2 (by omega)]; exact q.1.1.2.2) hn hr ⟨fun _ => ?_, fun z => absurd z (by decide)⟩
  refine s_in_ok (lo := 1) (hi := 400) hN1 hN (by omega) ⟨fun _ => ?_, fun z => absurd z (by decide)⟩
  refine s_mnote (fun f hf => ⟨vin (by omega) (by omega), ?_⟩)
  have hf' : ∀ p, p < 256 → f p = nI (mem p) := fun p hp => by rw [hf p hp, em.1 131 (by omega) (by omega)]; exact (q.1.2.1 p hp).1
  obtain ⟨N0, e0⟩ : ∃ N0, N0 = sa (sv T 130 0 0) 144 f := ⟨_, rfl⟩
  have hpf := hp f
  rw [← e0] at hpf ⊢
  have em0 : EqM M N0 := by rw [e0]; exact ⟨fun i a b => by rw [sa_ne (by omega)]; exact em.1 i a b, fun j hj => by rw [sa_ne (by decide)]; exact em.2 j hj⟩
  rintro T10 e10
  rw [cl (by omega), sv_ne (by decide), sv_ne (by decide), em0.1 132 (by omega) (by omega), (q.1.2.2.2.1 r hr).2.1] at e10
  obtain ⟨U0, eU⟩ : ∃ U0, U0 = sv (sv (sv (sv (sv (sv T10 130 34 1) 130 39 1) 130 35 0) 130 36 0) 130 37 0) 130 38 0 := ⟨_, rfl⟩
  rw [← eU]
  have u130 : ∀ j, j < 30 ∨ 39 < j → U0.1 130 j = N0.1 130 j := fun j hj => by rw [eU, sv_j (by omega), sv_j (by omega), sv_j (by omega), sv_j (by omega), sv_j (by omega), sv_j (by omega), e10, sv_j (by omega), sv_j (by omega), sv_j (by omega), sv_j (by omega)]
  have uj : ∀ j, j ≠ 130 → U0.1 j = N0.1 j := fun j hj => by rw [eU, sv_ne hj, sv_ne hj, sv_ne hj, sv_ne hj, sv_ne hj, sv_ne hj, e10, sv_ne hj, sv_ne hj, sv_ne hj, sv_ne hj]
  have ms0 : MS l n bg s C M N0 0 U0 := by
    refine ⟨⟨fun i a b => by rw [uj i (by omega)]; exact em0.1 i a b, fun j hj => by rw [u130 j (by omega)]; exact em0.2 j hj⟩, ⟨⟨?_, ?_, ?_, ?_, ?_, ?_, ?_⟩, fun j j1 j2 => ?_⟩, ⟨fun j hj => uj j (by omega), fun j _ _ hj => u130 j hj, by rw [eU, e10]; rfl⟩, ?_, l, 0, by rw [es]; exact q, Nat.le_refl _, ?_, ?_⟩
    · rw [eU, e10]; simp only [svat]; rw [es]; rfl
    · rw [eU, e10]; simp only [svat]; rw [es]; rfl
    · rw [eU, e10]; simp only [svat]; rw [es]; rfl
    · rw [eU, e10]; simp only [svat]; rw [es]; rfl
    · rw [eU, e10]; simp only [svat]; rw [es]; rfl
    · rw [eU, e10]; simp only [svat]; rw [es]; rfl
    · rw [eU, e10]; simp only [svat]; rw [es]; rfl
    · rw [es] at j2; have : j < 1 := j2; omega
    · rw [eU, e10]; simp only [svat]; rfl
    · rw [eU, e10, drp_self]; simp only [svat]; rfl
    · rw [eU, e10]; simp only [svat]; rfl
  refine LW_gen (N + 1) (fun k v U => (k ≤ N ∧ v = cd (aF (its n bg s k)) ∧ MS l n bg s C M N0 k U) ∨ (k = N + 1 ∧ v = 4 ∧ aF (its n bg s N) = 0 ∧ MS l n bg s C M N0 N U)) (Or.inl ⟨Nat.zero_le _, by show 0 = cd (aF s); rw [hF0]; decide, ms0⟩) ?_
  rintro k v U hk hJ kk hkk
  unfold wb_X7_run_92
  rcases hJ with ⟨hkN, rfl, hM⟩ | ⟨rfl, rfl, hF, hM⟩
  · have hWk := wf_its hW hb k
    rw [cd_0 hWk]
    refine ⟨fun z => ?_, fun z => ?_⟩
    · have hMN := hM.fin z hkN
      refine hpf U _ hf' hMN ?_
      obtain ⟨j, rfl⟩ : ∃ j, N = k + j := ⟨N - k, by omega⟩
      rw [its_end z j, if_neg z]
      exact cd_r hWk z
    · have hCk := its_C (n := n) (bg := bg) hC0 k z
      obtain ⟨m1, m2, m3, m4, lk, ck, qk, hck, m5, m6⟩ := id hM
      by_cases hkN' : k = N
      · unfold wp_X7_act
        rw [m2.1.2.2.2.2.2.2, hCk, hkN']
        refine ⟨fun w => absurd rfl w, fun _ => hkk _ _ (by omega) (Or.inr ⟨by omega, rfl, ?_, ?_⟩)⟩
        · rw [← hkN']; exact z
        · rw [← hkN']; exact hM
      · refine s_act hWk z (by omega) hN (by omega) qk m1 m2 m5 m6 (fun U' l' ck' a1 a0 a2 a3 a4 a5 a6 a7 a8 => hkk _ _ (by omega) (Or.inl ⟨by omega, rfl, a2, a3, m3.tr a4, ?_, ?_⟩))
        · by_cases hb : ¬ 12 < kd (its n bg s k) ∧ Bm 4 (cseqm 4 C (xwP n bg s) (xwV n bg s) k) (its n bg s k)
          · rw [mbs_y ⟨z, hb⟩, a5 hb, m4, nI_1]
          · rw [mbs_n (fun w => hb w.2), a6 hb, m4]
        · exact ⟨l', ck', a1, by omega, a7, a8⟩
  · refine ⟨fun _ => hpf U 4 hf' hM ?_, fun z => absurd z (by decide)⟩
    rw [if_pos hF]
    exact ⟨fun _ => rfl, fun z => absurd z (by decide)⟩
