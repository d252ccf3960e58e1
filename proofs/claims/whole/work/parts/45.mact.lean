/-! the model's act -/
def MCx (s : Ab) (U : St) : Prop := (U.1 130 30 = aA s ∧ U.1 130 31 = aB s ∧ U.1 130 32 = nI (aP s) ∧ U.1 130 33 = nI (rW s) ∧ U.1 130 34 = nI (aD s) ∧ U.1 130 39 = nI (aX s) ∧ U.1 130 35 = nI (aC s)) ∧ ∀ j, 1 ≤ j → j < aD s → U.1 150 j = nI (aR s j) ∧ U.1 149 j = nI (aW s (j - 1))
def FA (N U : St) : Prop := (∀ j, j < 130 ∨ (142 ≤ j ∧ j ≤ 148) → U.1 j = N.1 j) ∧ (∀ j, j ≠ 13 → j ≠ 15 → (j < 30 ∨ 39 < j) → U.1 130 j = N.1 130 j) ∧ U.2 = N.2
theorem FA.rf {N : St} : FA N N := ⟨fun _ _ => rfl, fun _ _ _ _ => rfl, rfl⟩
theorem FA.tr {N U V : St} (h : FA N U) (h2 : FA U V) : FA N V := ⟨fun j a => (h2.1 j a).trans (h.1 j a), fun j a b c => (h2.2.1 j a b c).trans (h.2.1 j a b c), h2.2.2.trans h.2.2⟩
theorem FA.sv {N : St} {k : Nat} {v : Int32} (h : 30 ≤ k ∧ k ≤ 39) : FA N (sv N 130 k v) := ⟨fun j a => sv_ne (by omega), fun j _ _ c => sv_j (by omega), rfl⟩
theorem FA.fb {N U : St} (h : Fb N U) : FA N U := ⟨fun j a => h.1 j (by omega), fun j a b _ => h.2.1 j a b, h.2.2⟩
theorem EqM.sv {M U : St} {k : Nat} {v : Int32} (h : EqM M U) (hk : k ≠ 2 ∧ k ≠ 13 ∧ k ≠ 15) : EqM M (sv U 130 k v) := ⟨fun i a b => by rw [sv_ne (by omega)]; exact h.1 i a b, fun j hj => by rw [sv_j (by omega)]; exact h.2 j hj⟩
def cd (f : Int32) : Int32 := if f = 1 then 5 else -f
theorem Bm_mod {l lk : Nat → Bool} {n : Nat} {bg : Nat → Nat} {ck : Nat} {C M : St} {s : Ab} (q : Qc l lk n (aM s) bg ck C M) (hr : rW s < n) (hP : aP s < 256) : Bm 4 C s ↔ M.1 133 (rW s) ≠ 0 ∧ M.1 134 (256 * rW s + aP s) ≠ 0 := by
  obtain ⟨hR, -, hL, -⟩ := q
  have hn := hR.1.1
  unfold Bm
  rw [hL _ (by omega), hR.has hr]
  refine and_congr_right (fun hb => ?_)
  have hlm := hR.2.2.2.2.1 _ hb
  obtain ⟨c, g, me, hM, m1, m2, m3, m4, m5⟩ := hR.2.2.2.2.2.2.2.1 _ hr hlm
  have e : M.1 134 (256 * rW s + aP s) ≠ 0 ↔ ∃ i, i < c ∧ g i = aP s := by
    have := m2 (aP s) hP
    rw [← this.2]
    exact this.1.ne
  rw [e]
  refine ⟨fun ⟨c', i, e1, e2, e3, e4⟩ => ?_, fun ⟨i, hi, e⟩ => ⟨c, i, hM.1.1, hM.1.2.1, hi, by rw [(hM.1.2.2.1 i hi).2, e]⟩⟩
  have hc := hM.1.2.1
  have : c = c' := (nIe (by omega) (by omega)).mp (hM.1.1.symm.trans e1)
  subst this
  exact ⟨i, e3, (nIe (by have := (hM.1.2.2.1 i e3).1; omega) (by omega)).mp ((hM.1.2.2.1 i e3).2.symm.trans e4)⟩
theorem s_changes {l lk : Nat → Bool} {n p v : Nat} {mem bg : Nat → Nat} {ck : Nat} {a2 : Int32} {C M U : St} {post : St → Prop} (q : Qc l lk n mem bg ck C M) (em : EqM M U) (hp : p < 256) (hv : v < 256) (ha : a2 &&& 255 = nI v) (h37 : U.1 130 37 = nI (cnt (drp l lk) 10)) (h38 : U.1 130 38 = nI ck)
    (hh : ∀ U' l' ck', Qc l l' n (mu mem p v) bg ck' (cbec 4 p v C) (mbx n p v M) → ck' ≤ ck + 1 → EqM (mbx n p v M) U' → U'.1 130 37 = nI (cnt (drp l l') 10) → U'.1 130 38 = nI ck' → (∀ j, j ≠ 13 → j ≠ 15 → j ≠ 37 → j ≠ 38 → U'.1 130 j = U.1 130 j) → (∀ j, j < 130 ∨ 141 < j → U'.1 j = U.1 j) → U'.2 = U.2 → post U') : wp_X7_changes (nI p) a2 U post := by
  have hn := q.1.1.1
  obtain ⟨l', m', c', q', f1, f2, f3⟩ := qc_mbx q hp hv
  unfold wp_X7_changes
  rw [ha]
  refine s_bec q em hp hv (fun hm em' => ⟨fun _ => ⟨fun _ => ?_, fun z => absurd (by decide) z⟩, fun z => absurd (by decide) z⟩) (fun hm M' em' hFb' => ⟨fun z => absurd z (nI_pos (by have := cnt_le (dq M p) n; omega)), fun _ => ?_⟩)
  · obtain ⟨rfl, rfl, rfl⟩ := f1 hm
    have emu : mu m' p v = m' := by rw [← hm]; exact mu_same
    refine hh _ l' c' (by rw [emu]; exact q') (by omega) ((em'.sv ⟨by decide, by decide, by decide⟩).sv ⟨by decide, by decide, by decide⟩) ?_ ?_ (fun j a b c d => by rw [sv_j c, sv_j d]) (fun j a => by rw [sv_ne (by omega), sv_ne (by omega)]) rfl
    · rw [sv_k, sv_j (by decide), h37]; exact Int32.add_zero _
    · rw [sv_j (by decide), sv_k, h38]; exact Int32.add_zero _
  · obtain ⟨g1, g2, g3⟩ := f2 hm
    subst g2
    have hcl : cnt (dq M p) n ≤ n := cnt_le _ _
    have hadd : nI (cnt (drp l lk) 10) + nI (cnt (dq M p) n) = nI (cnt (drp l l') 10) := by rw [g3, nI_add, drp_add q.1.2.2.2.2.1 f3]
    have b37 : M'.1 130 37 = nI (cnt (drp l lk) 10) := by rw [hFb'.2.1 37 (by decide) (by decide)]; exact h37
    have b38 : M'.1 130 38 + 1 = nI c' := by rw [hFb'.2.1 38 (by decide) (by decide), h38, nI_1, g1]
    have go : ∀ x : Int32, nI (cnt (drp l lk) 10) + x = nI (cnt (drp l l') 10) → post (sv (sv M' 130 38 (M'.1 130 38 + 1)) 130 37 ((sv M' 130 38 (M'.1 130 38 + 1)).1 130 37 + x)) := fun x ex => by
      refine hh _ l' c' q' (by omega) ((em'.sv ⟨by decide, by decide, by decide⟩).sv ⟨by decide, by decide, by decide⟩) ?_ ?_ (fun j a b c d => by rw [sv_j c, sv_j d]; exact hFb'.2.1 j a b) (fun j a => by rw [sv_ne (by omega), sv_ne (by omega)]; exact hFb'.1 j a) hFb'.2.2
      · rw [sv_k, sv_j (by decide), b37, ex]
      · rw [sv_j (by decide), sv_k, b38]
    unfold wj_X7_changes_25
    refine ⟨fun z => go 0 ?_, fun z => go _ hadd⟩
    rw [n_0, leN (by omega) (by omega)] at z
    rw [← hadd, show cnt (dq M p) n = 0 by omega]
    rfl
/-- behind the counting -/
def P81 (s : Ab) (U : St) : Prop := (U.1 130 30 = aA s ∧ U.1 130 31 = aB s ∧ U.1 130 32 = nI (aP s) ∧ U.1 130 33 = nI (rW s) ∧ U.1 130 34 = nI (aD s) ∧ U.1 130 39 = nI (aX s) ∧ U.1 130 35 = nI (aC s + 1)) ∧ ∀ j, 1 ≤ j → j < aD s → U.1 150 j = nI (aR s j) ∧ U.1 149 j = nI (aW s (j - 1))
theorem s_act81 {l lk : Nat → Bool} {n : Nat} {bg : Nat → Nat} {ck : Nat} {s : Ab} {C M U : St} {dl mb0 : Int32} {post : Int32 → St → Prop} (hW : WF n s) (c0 : aF s = 0) (c1 : ¬ 12 < kd s) (q : Qc l lk n (aM s) bg ck C M) (em : EqM M U) (h : P81 s U) (h37 : U.1 130 37 = nI (cnt (drp l lk) 10)) (h38 : U.1 130 38 = nI ck)
    (hp : ∀ U' l' ck', Qc l l' n (aM (nxt n bg s)) bg ck' (cbec 4 (awr s).1 (awr s).2 C) (mbx n (awr s).1 (awr s).2 M) → ck' ≤ ck + 1 → EqM (mbx n (awr s).1 (awr s).2 M) U' → MCx (nxt n bg s) U' → FA U U' → U'.1 130 36 = mb0 + dl → U'.1 130 37 = nI (cnt (drp l l') 10) → U'.1 130 38 = nI ck' → post (cd (aF (nxt n bg s))) U') : wj_X7_act_81 (nI (kd s)) dl mb0 U post := by
  obtain ⟨w1, w2, w3, w4, w5, w6, w7⟩ := id hW
  have hn := q.1.1.1
  unfold wj_X7_act_81
  obtain ⟨V, eV⟩ : ∃ V, V = sv U 130 36 (mb0 + dl) := ⟨_, rfl⟩
  rw [← eV]
  have v130 : ∀ j, j ≠ 36 → V.1 130 j = U.1 130 j := fun j hj => by rw [eV, sv_j hj]
  have vj : ∀ j, j ≠ 130 → V.1 j = U.1 j := fun j hj => by rw [eV, sv_ne hj]
  have v36 : V.1 130 36 = mb0 + dl := by rw [eV, sv_k]
  have emV : EqM M V := by rw [eV]; exact em.sv ⟨by decide, by decide, by decide⟩
  have fV : FA U V := by rw [eV]; exact FA.sv ⟨by omega, by omega⟩
  obtain ⟨⟨r30, r31, r32, r33, r34, r39, r35⟩, rs⟩ := h
  rw [← v130 30 (by decide)] at r30
  rw [← v130 31 (by decide)] at r31
  rw [← v130 32 (by decide)] at r32
  rw [← v130 33 (by decide)] at r33
  rw [← v130 34 (by decide)] at r34
  rw [← v130 39 (by decide)] at r39
  rw [← v130 35 (by decide)] at r35
  rw [← v130 37 (by decide)] at h37
  rw [← v130 38 (by decide)] at h38
  rw [← vj 149 (by decide), ← vj 150 (by decide)] at rs
  have hB : By 131 (aM s) V := (q.1.mod emV).2.1
  have hl : (aP s + 1) % 256 < 256 := Nat.mod_lt _ (by omega)
  rw [r32, show (nI (aP s) + 1) &&& 255 = nI ((aP s + 1) % 256) by rw [n_1]; exact nI_m255 (by omega), cl (by omega), (hB _ hl).1]
  refine ⟨vin hl (by omega), s_behind hB w1 ?_⟩
  rw [r32]
  refine s_other hB w1 ?_
  have hop1 : opd s < 256 := (hB _ hl).2
  have k0 : nI (kd s) = 0 ↔ kd s = 0 := by rw [n_0, nIe (by omega) (by omega)]
  have kk : ∀ j, j ≤ 12 → (nI (kd s) = nI j ↔ kd s = j) := fun j hj => nIe (by omega) (by omega)
  -- a step that writes no byte
  have nwq : (aF s = 0 → kd s ≠ 5 ∧ kd s ≠ 11) → Qc l lk n (aM (nxt n bg s)) bg ck (cbec 4 (awr s).1 (awr s).2 C) (mbx n (awr s).1 (awr s).2 M) ∧ mbx n (awr s).1 (awr s).2 M = M := fun hk => by
    have e1 : mbx n (awr s).1 (awr s).2 M = M := by rw [awr_no hk]; unfold mbx; rw [if_pos (q.1.2.1 0 (by omega)).1]
    rw [e1, cbec_no q.2.2.2.1 hk, nxt_M, awr_no hk, mu_same]
    exact ⟨q, rfl⟩
  have fin0 : (aF s = 0 → kd s ≠ 5 ∧ kd s ≠ 11) → ∀ U', EqM M U' → MCx (nxt n bg s) U' → FA V U' → U'.1 130 36 = V.1 130 36 → U'.1 130 37 = V.1 130 37 → U'.1 130 38 = V.1 130 38 → post (cd (aF (nxt n bg s))) U' := fun hk U' a b c d e f => by
    obtain ⟨q1, q2⟩ := nwq hk
    exact hp U' lk ck q1 (by omega) (by rw [q2]; exact a) b (fV.tr c) (by rw [d, v36]) (by rw [e, h37]) (by rw [f, h38])
  refine ⟨fun z9 => ⟨fun z0 => ?_, fun z0 => ?_⟩, fun z9 => ?_⟩
  · rw [k0] at z0
    rw [n_9, kk 9 (by omega)] at z9
    have en := nxt_act (n := n) (bg := bg) c0 c1 z0 z9
    -- where it goes on
    have att : ∀ (W : St), W.1 130 30 = fA s → W.1 130 31 = fB s → post 0 (sv W 130 32 (nI (fP s))) → ((nI (kd s) = 6 → post 0 (sv W 130 32 (nI (ot (aM s) (aP s))))) ∧ (¬ nI (kd s) = 6 → (¬ nI (kd s) = 7 → wj_X7_act_213 (nI (kd s)) (nI (nx (aM s) (aP s))) (nI (ot (aM s) (aP s))) W post) ∧ (nI (kd s) = 7 → (W.1 130 30 = 0 → post 0 (sv W 130 32 (nI (ot (aM s) (aP s))))) ∧ (¬ W.1 130 30 = 0 → wj_X7_act_213 (nI (kd s)) (nI (nx (aM s) (aP s))) (nI (ot (aM s) (aP s))) W post)))) := fun W e30 e31 hh => by
      have yes : (kd s = 6 ∨ (kd s = 7 ∧ fA s = 0) ∨ (kd s = 8 ∧ fB s ≠ 0)) → post 0 (sv W 130 32 (nI (ot (aM s) (aP s)))) := fun z => by
        have e : fP s = ot (aM s) (aP s) := by unfold fP; rw [if_pos z]
        rw [← e]; exact hh
      have no : ¬ (kd s = 6 ∨ (kd s = 7 ∧ fA s = 0) ∨ (kd s = 8 ∧ fB s ≠ 0)) → post 0 (sv W 130 32 (nI (nx (aM s) (aP s)))) := fun z => by
        have e : fP s = nx (aM s) (aP s) := by unfold fP; rw [if_neg z]
        rw [← e]; exact hh
      have j213 : kd s ≠ 6 → ¬ (kd s = 7 ∧ fA s = 0) → wj_X7_act_213 (nI (kd s)) (nI (nx (aM s) (aP s))) (nI (ot (aM s) (aP s))) W post := fun n6 n7 => by
        unfold wj_X7_act_213
        rw [n_8, kk 8 (by omega), e31]
        refine ⟨fun z => no (fun u => ?_), fun z => ⟨fun y => no (fun u => ?_), fun y => yes (Or.inr (Or.inr ⟨z, y⟩))⟩⟩
        · rcases u with u | u | u
          · exact n6 u
          · exact n7 u
          · exact z u.1
        · rcases u with u | u | u
          · exact n6 u
          · exact n7 u
          · exact u.2 y
      rw [show (6 : Int32) = nI 6 from rfl, kk 6 (by omega), show (7 : Int32) = nI 7 from rfl, kk 7 (by omega), e30]
      exact ⟨fun z => yes (Or.inl z), fun z => ⟨fun y => j213 z (fun u => y u.1), fun y => ⟨fun x => yes (Or.inr (Or.inl ⟨y, x⟩)), fun x => j213 z (fun u => x u.2)⟩⟩⟩
    have fin : ∀ (W : St) l' ck', Qc l l' n (aM (nxt n bg s)) bg ck' (cbec 4 (awr s).1 (awr s).2 C) (mbx n (awr s).1 (awr s).2 M) → ck' ≤ ck + 1 → EqM (mbx n (awr s).1 (awr s).2 M) W → W.1 130 30 = fA s → W.1 130 31 = fB s → (∀ j, j ≠ 13 → j ≠ 15 → j ≠ 30 → j ≠ 31 → j ≠ 37 → j ≠ 38 → W.1 130 j = V.1 130 j) → (∀ j, j < 130 ∨ 141 < j → W.1 j = V.1 j) → W.2 = V.2 → W.1 130 37 = nI (cnt (drp l l') 10) → W.1 130 38 = nI ck' → ((nI (kd s) = 6 → post 0 (sv W 130 32 (nI (ot (aM s) (aP s))))) ∧ (¬ nI (kd s) = 6 → (¬ nI (kd s) = 7 → wj_X7_act_213 (nI (kd s)) (nI (nx (aM s) (aP s))) (nI (ot (aM s) (aP s))) W post) ∧ (nI (kd s) = 7 → (W.1 130 30 = 0 → post 0 (sv W 130 32 (nI (ot (aM s) (aP s))))) ∧ (¬ W.1 130 30 = 0 → wj_X7_act_213 (nI (kd s)) (nI (nx (aM s) (aP s))) (nI (ot (aM s) (aP s))) W post)))) := fun W l' ck' q' hle e' e30 e31 w130 wj w2' w37 w38 => by
      refine att W e30 e31 ?_
      have hcd : cd (aF (nxt n bg s)) = 0 := by rw [en]; show cd 0 = 0; decide
      have := hp (sv W 130 32 (nI (fP s))) l' ck' q' hle (e'.sv ⟨by decide, by decide, by decide⟩) ?_ (fV.tr ⟨fun j a => by rw [sv_ne (by omega)]; exact wj j (by omega), fun j a b c => by rw [sv_j (by omega)]; exact w130 j a b (by omega) (by omega) (by omega) (by omega), w2'⟩) (by rw [sv_j (by decide), w130 36 (by decide) (by decide) (by decide) (by decide) (by decide) (by decide), v36]) (by rw [sv_j (by decide)]; exact w37) (by rw [sv_j (by decide)]; exact w38)
      · rw [hcd] at this; exact this
      · rw [en]
        refine ⟨⟨by rw [sv_j (by decide)]; exact e30, by rw [sv_j (by decide)]; exact e31, sv_k, ?_, ?_, ?_, ?_⟩, fun j j1 j2 => ?_⟩
        · rw [sv_j (by decide), w130 33 (by decide) (by decide) (by decide) (by decide) (by decide) (by decide)]; exact r33
        · rw [sv_j (by decide), w130 34 (by decide) (by decide) (by decide) (by decide) (by decide) (by decide)]; exact r34
        · rw [sv_j (by decide), w130 39 (by decide) (by decide) (by decide) (by decide) (by decide) (by decide)]; exact r39
        · rw [sv_j (by decide), w130 35 (by decide) (by decide) (by decide) (by decide) (by decide) (by decide)]; exact r35
        · rw [sv_ne (by decide), sv_ne (by decide), wj 149 (by omega), wj 150 (by omega)]; exact rs j j1 j2
    -- no byte is written
    have nw : ∀ (W : St), kd s ≠ 5 → kd s ≠ 11 → W.1 130 30 = fA s → W.1 130 31 = fB s → (∀ j, j ≠ 30 → j ≠ 31 → W.1 130 j = V.1 130 j) → (∀ j, j ≠ 130 → W.1 j = V.1 j) → W.2 = V.2 → _ := fun W h5 h11 e30 e31 w130 wj w2' =>
      fin W lk ck (nwq (fun _ => ⟨h5, h11⟩)).1 (by omega) (by rw [(nwq (fun _ => ⟨h5, h11⟩)).2]; exact ⟨fun i a b => by rw [wj i (by omega)]; exact emV.1 i a b, fun j hj => by rw [w130 j (by omega) (by omega)]; exact emV.2 j hj⟩) e30 e31 (fun j _ _ a b _ _ => w130 j a b) (fun j a => wj j (by omega)) w2' (by rw [w130 37 (by decide) (by decide)]; exact h37) (by rw [w130 38 (by decide) (by decide)]; exact h38)
    have yw : ∀ p v : Nat, awr s = (p, v) → p < 256 → v < 256 → aA s &&& 255 = nI v → fA s = aA s → fB s = aB s → ∀ P : St → Prop, (∀ W, ((nI (kd s) = 6 → post 0 (sv W 130 32 (nI (ot (aM s) (aP s))))) ∧ (¬ nI (kd s) = 6 → (¬ nI (kd s) = 7 → wj_X7_act_213 (nI (kd s)) (nI (nx (aM s) (aP s))) (nI (ot (aM s) (aP s))) W post) ∧ (nI (kd s) = 7 → (W.1 130 30 = 0 → post 0 (sv W 130 32 (nI (ot (aM s) (aP s))))) ∧ (¬ W.1 130 30 = 0 → wj_X7_act_213 (nI (kd s)) (nI (nx (aM s) (aP s))) (nI (ot (aM s) (aP s))) W post)))) → P W) → wp_X7_changes (nI p) (aA s) V P := fun p v ew hp1 hv1 ha ea eb P hP => by
      refine s_changes q emV hp1 hv1 ha h37 h38 (fun W l' ck' q' hle e' w37 w38 w130 wj w2' => hP W ?_)
      refine fin W l' ck' ?_ hle ?_ (by rw [w130 30 (by decide) (by decide) (by decide) (by decide), ea]; exact r30) (by rw [w130 31 (by decide) (by decide) (by decide) (by decide), eb]; exact r31) (fun j a b _ _ e f => w130 j a b e f) wj w2' w37 w38
      · rw [nxt_M, ew]; exact q'
      · rw [ew]; exact e'
    unfold wp_X7_works
    rw [r30, r31, n_1, kk 1 (by omega), n_2, kk 2 (by omega), n_3, kk 3 (by omega), show (4 : Int32) = nI 4 from rfl, kk 4 (by omega), show (5 : Int32) = nI 5 from rfl, kk 5 (by omega), show (8 : Int32) = nI 8 from rfl, kk 8 (by omega), n_9, kk 9 (by omega), n_10, kk 10 (by omega), show (11 : Int32) = nI 11 from rfl, kk 11 (by omega), n_12, kk 12 (by omega)]
    have fb0 : kd s ≠ 3 → kd s ≠ 8 → fB s = aB s := fun a b => by unfold fB; rw [if_neg a, if_neg b]
    have fa0 : kd s ≠ 1 → kd s ≠ 2 → kd s ≠ 3 → kd s ≠ 4 → kd s ≠ 10 → kd s ≠ 12 → fA s = aA s := fun a b c d e f => by unfold fA; rw [if_neg a, if_neg b, if_neg c, if_neg d, if_neg e, if_neg f]
    refine ⟨fun k1 => ?_, fun k1 => ⟨fun k2 => ?_, fun k2 => ⟨fun k3 => ?_, fun k3 => ⟨fun k4 => ⟨vin hop1 (by omega), ?_⟩, fun k4 => ⟨fun k5 => ?_, fun k5 => ⟨fun k6 => ?_, fun k6 => ⟨fun k7 => ?_, fun k7 => ⟨fun k8 => ?_, fun k8 => ⟨fun k9 => absurd k9 z9, fun _ => ⟨fun k10 => ⟨?_, ?_⟩, fun k10 => ⟨fun k11 => ?_, fun k11 => ⟨fun k12 => ?_, fun k12 => ?_⟩⟩⟩⟩⟩⟩⟩⟩⟩⟩⟩⟩
    · exact nw _ (by omega) (by omega) (by rw [sv_k]; unfold fA; rw [if_pos k1]; rfl) (by rw [sv_j (by decide), fb0 (by omega) (by omega)]; exact r31) (fun j a b => sv_j a) (fun j a => sv_ne a) rfl
    · exact nw _ (by omega) (by omega) (by rw [sv_k]; unfold fA; rw [if_neg k1, if_pos k2]; rfl) (by rw [sv_j (by decide), fb0 (by omega) (by omega)]; exact r31) (fun j a b => sv_j a) (fun j a => sv_ne a) rfl
    · exact nw _ (by omega) (by omega) (by rw [sv_j (by decide), sv_k]; unfold fA; rw [if_neg k1, if_neg k2, if_pos k3]) (by rw [sv_k]; unfold fB; rw [if_pos k3]) (fun j a b => by rw [sv_j b, sv_j a]) (fun j a => by rw [sv_ne a, sv_ne a]) rfl
    · have e4 : V.1 131 (nI (aM s ((aP s + 1) % 256))).toNatClampNeg = nI (aM s (opd s)) := by rw [cl (by have : opd s = aM s ((aP s + 1) % 256) := rfl; omega)]; exact (hB _ hop1).1
      rw [e4]
      exact nw _ (by omega) (by omega) (by rw [sv_k]; unfold fA; rw [if_neg k1, if_neg k2, if_neg k3, if_pos k4]) (by rw [sv_j (by decide), fb0 (by omega) (by omega)]; exact r31) (fun j a b => sv_j a) (fun j a => sv_ne a) rfl
    · exact yw (opd s) (lo8 (aA s)) (by unfold awr; rw [if_pos ⟨c0, k5⟩]) hop1 (lo8_ok _).1 (lo8_ok _).2 (fa0 (by omega) (by omega) (by omega) (by omega) (by omega) (by omega)) (fb0 (by omega) (by omega)) _ (fun W hw => hw)
    · exact nw V k5 (by have : kd s = 6 := (kk 6 (by omega)).mp k6; omega) (by rw [fa0 (by have : kd s = 6 := (kk 6 (by omega)).mp k6; omega) (by omega) (by omega) (by omega) (by have : kd s = 6 := (kk 6 (by omega)).mp k6; omega) (by have : kd s = 6 := (kk 6 (by omega)).mp k6; omega)]; exact r30) (by rw [fb0 (by omega) (by have : kd s = 6 := (kk 6 (by omega)).mp k6; omega)]; exact r31) (fun _ _ _ => rfl) (fun _ _ => rfl) rfl
    · have h7 : kd s = 7 := (kk 7 (by omega)).mp k7
      exact nw V k5 (by omega) (by rw [fa0 (by omega) (by omega) (by omega) (by omega) (by omega) (by omega)]; exact r30) (by rw [fb0 (by omega) (by omega)]; exact r31) (fun _ _ _ => rfl) (fun _ _ => rfl) rfl
    · exact nw _ (by omega) (by omega) (by rw [sv_j (by decide), fa0 (by omega) (by omega) (by omega) (by omega) (by omega) (by omega)]; exact r30) (by rw [sv_k]; unfold fB; rw [if_neg (by omega), if_pos k8]; rfl) (fun j a b => sv_j b) (fun j a => sv_ne a) rfl
    · rw [(lo8_ok (aB s)).2]; exact vin (lo8_ok _).1 (by omega)
    · rw [(lo8_ok (aB s)).2, cl (by have := (lo8_ok (aB s)).1; omega), (hB _ (lo8_ok (aB s)).1).1]
      exact nw _ (by omega) (by omega) (by rw [sv_k]; unfold fA; rw [if_neg k1, if_neg k2, if_neg k3, if_neg k4, if_pos k10]) (by rw [sv_j (by decide), fb0 (by omega) (by omega)]; exact r31) (fun j a b => sv_j a) (fun j a => sv_ne a) rfl
    · rw [(lo8_ok (aB s)).2]
      exact yw (lo8 (aB s)) (lo8 (aA s)) (by unfold awr; rw [if_neg (fun z => by omega), if_pos ⟨c0, k11⟩]) (lo8_ok _).1 (lo8_ok _).1 (lo8_ok _).2 (fa0 (by omega) (by omega) (by omega) (by omega) (by omega) (by omega)) (fb0 (by omega) (by omega)) _ (fun W hw => hw)
    · exact nw _ (by omega) (by omega) (by rw [sv_k]; unfold fA; rw [if_neg k1, if_neg k2, if_neg k3, if_neg k4, if_neg (by omega), if_pos k12]) (by rw [sv_j (by decide), fb0 (by omega) (by omega)]; exact r31) (fun j a b => sv_j a) (fun j a => sv_ne a) rfl
    · exact nw V k5 k11 (by rw [fa0 k1 k2 k3 k4 k10 k12]; exact r30) (by rw [fb0 k3 k8]; exact r31) (fun _ _ _ => rfl) (fun _ _ => rfl) rfl
  · -- the end of a routine
    rw [k0] at z0
    rw [r34, n_1, nIe (by omega) (by omega), pk_sub (by omega), sv_k, cl (by omega), sv_ne (by decide)]
    refine ⟨fun hd => ⟨vin (by omega) (by omega), ?_⟩, fun hd => ?_⟩
    · rw [(rs (aD s - 1) (by omega) (by omega)).1]
      rintro T34 e34
      have t34 : T34.1 130 34 = nI (aD s - 1) := by rw [e34, sv_j (by decide), sv_k]
      have tj : ∀ j, j ≠ 32 → j ≠ 34 → T34.1 130 j = V.1 130 j := fun j a b => by rw [e34, sv_j a, sv_j b]
      have to : ∀ j, j ≠ 130 → T34.1 j = V.1 j := fun j a => by rw [e34, sv_ne a, sv_ne a]
      rw [t34, cl (by omega), to 149 (by decide), (rs (aD s - 1) (by omega) (by omega)).2]
      refine ⟨vin (by omega) (by omega), ?_⟩
      have en := nxt_back (n := n) (bg := bg) c0 z0 hd
      have hcd : cd (aF (nxt n bg s)) = 0 := by rw [en]; show cd 0 = 0; decide
      have := fin0 (fun _ => by omega) (sv T34 130 33 (nI (aW s (aD s - 1 - 1)))) ⟨fun i a b => by rw [sv_ne (by omega), to i (by omega)]; exact emV.1 i a b, fun j hj => by rw [sv_j (by omega), tj j (by omega) (by omega)]; exact emV.2 j hj⟩ ?_ ⟨fun j a => by rw [sv_ne (by omega), to j (by omega)], fun j _ _ c => by rw [sv_j (by omega), tj j (by omega) (by omega)], by rw [sv2, e34]; rfl⟩ (by rw [sv_j (by decide), tj 36 (by decide) (by decide)]) (by rw [sv_j (by decide), tj 37 (by decide) (by decide)]) (by rw [sv_j (by decide), tj 38 (by decide) (by decide)])
      · rw [hcd] at this; exact this
      · rw [en]
        refine ⟨⟨by rw [sv_j (by decide), tj 30 (by decide) (by decide)]; exact r30, by rw [sv_j (by decide), tj 31 (by decide) (by decide)]; exact r31, by rw [sv_j (by decide), e34, sv_k]; rfl, by rw [sv_k]; rfl, by rw [sv_j (by decide)]; exact t34, by rw [sv_j (by decide), tj 39 (by decide) (by decide)]; exact r39, by rw [sv_j (by decide), tj 35 (by decide) (by decide)]; exact r35⟩, fun j j1 j2 => ?_⟩
        have j2 : j < aD s - 1 := j2
        rw [sv_ne (by decide), sv_ne (by decide), to 149 (by decide), to 150 (by decide)]; exact rs j j1 (by omega)
    · have en := nxt_over (n := n) (bg := bg) c0 z0 hd
      have hcd : cd (aF (nxt n bg s)) = 5 := by rw [en]; rfl
      have := fin0 (fun _ => by omega) V emV ?_ FA.rf rfl rfl rfl
      · rw [hcd] at this; exact this
      · rw [en]; exact ⟨⟨r30, r31, r32, r33, r34, r39, r35⟩, rs⟩
  · -- a call
    rw [n_9, kk 9 (by omega)] at z9
    have h2 : V.1 130 2 = nI n := (q.1.mod emV).1.2.2
    have hb := (q.1.mod emV).2.2.2.1
    have same : ∀ f : Int32, nxt n bg s = (aA s, aB s, aP s, aD s, aX s, aW s, aR s, aM s, f, aC s + 1) → post (cd f) V := fun f en => by
      have := fin0 (fun _ => by omega) V emV ?_ FA.rf rfl rfl rfl
      · rw [en] at this; exact this
      · rw [en]; exact ⟨⟨r30, r31, r32, r33, r34, r39, r35⟩, rs⟩
    show wp_X7_calls (nI (opd s)) (nI (nx (aM s) (aP s))) V _
    unfold wp_X7_calls
    rw [r34, show (6 : Int32) = nI 6 from rfl, nIe (by omega) (by omega), h2, ltN (by omega) (by omega)]
    refine ⟨fun d6 => ⟨fun z => absurd d6 z, fun _ => same (-3) (nxt_deep c0 z9 d6)⟩, fun d6 => ⟨fun hlt => ?_, fun hlt => ⟨fun _ => same (-2) (nxt_none c0 z9 d6 hlt), fun z => absurd z d6⟩⟩⟩
    rw [sv_ne (by decide), r34, cl (by omega), r33]
    refine ⟨vin (by omega) (by omega), vin (by omega) (by omega), ?_⟩
    rintro T6 e6
    have t6 : ∀ j, j ≠ 149 → j ≠ 150 → T6.1 j = V.1 j := fun j a b => by rw [e6, sv_ne a, sv_ne b]
    have t149 : T6.1 149 = upd (V.1 149) (aD s) (nI (rW s)) := by rw [e6, sv_eq, sv_ne (by decide)]
    have t150 : T6.1 150 = upd (V.1 150) (aD s) (nI (nx (aM s) (aP s))) := by rw [e6, sv_ne (by decide), sv_eq]
    have t634 : T6.1 130 34 + 1 = nI (aD s + 1) := by rw [t6 130 (by decide) (by decide), r34, nI_1]
    have t639 : T6.1 130 39 = nI (aX s) := by rw [t6 130 (by decide) (by decide)]; exact r39
    rw [t634, sv_k, sv_j (by decide), t639, leN (by omega) (by omega)]
    have en := nxt_call (n := n) (bg := bg) c0 z9 d6 hlt
    have hcd : cd (aF (nxt n bg s)) = 0 := by rw [en]; show cd 0 = 0; decide
    have fin1 : ∀ x : Nat, x = (if aX s < aD s + 1 then aD s + 1 else aX s) → ∀ T9 : St, T9 = sv (sv (sv (sv T6 130 34 (nI (aD s + 1))) 130 39 (nI x)) 130 33 (nI (opd s))) 130 32 ((sv (sv (sv T6 130 34 (nI (aD s + 1))) 130 39 (nI x)) 130 33 (nI (opd s))).1 132 (nI (opd s)).toNatClampNeg) → post 0 T9 := fun x ex T9 e9 => by
      rw [cl (by omega), sv_ne (by decide), sv_ne (by decide), sv_ne (by decide), t6 132 (by decide) (by decide), (hb (opd s) hlt).2.1] at e9
      have tj : ∀ j, j ≠ 32 → j ≠ 33 → j ≠ 34 → j ≠ 39 → T9.1 130 j = V.1 130 j := fun j a b c d => by rw [e9, sv_j a, sv_j b, sv_j d, sv_j c, t6 130 (by decide) (by decide)]
      have to : ∀ j, j ≠ 130 → T9.1 j = T6.1 j := fun j a => by rw [e9, sv_ne a, sv_ne a, sv_ne a, sv_ne a]
      have := fin0 (fun _ => by omega) T9 ⟨fun i a b => by rw [to i (by omega), t6 i (by omega) (by omega)]; exact emV.1 i a b, fun j hj => by rw [tj j (by omega) (by omega) (by omega) (by omega)]; exact emV.2 j hj⟩ ?_ ⟨fun j a => by rw [to j (by omega), t6 j (by omega) (by omega)], fun j _ _ c => tj j (by omega) (by omega) (by omega) (by omega), by rw [e9, e6]; rfl⟩ (tj 36 (by decide) (by decide) (by decide) (by decide)) (tj 37 (by decide) (by decide) (by decide) (by decide)) (tj 38 (by decide) (by decide) (by decide) (by decide))
      · rw [hcd] at this; exact this
      · rw [en]
        refine ⟨⟨by rw [tj 30 (by decide) (by decide) (by decide) (by decide)]; exact r30, by rw [tj 31 (by decide) (by decide) (by decide) (by decide)]; exact r31, by rw [e9, sv_k]; rfl, ?_, by rw [e9, sv_j (by decide), sv_j (by decide), sv_j (by decide), sv_k]; rfl, by rw [e9, sv_j (by decide), sv_j (by decide), sv_k, ex]; rfl, by rw [tj 35 (by decide) (by decide) (by decide) (by decide)]; exact r35⟩, fun j j1 j2 => ?_⟩
        · rw [e9, sv_j (by decide), sv_k]
          show nI (opd s) = nI (updN (aW s) (aD s) (opd s) (aD s + 1 - 1))
          unfold updN
          rw [if_pos (by omega)]
        · have j2 : j < aD s + 1 := j2
          rw [to 149 (by decide), to 150 (by decide), t149, t150]
          show _ = nI (updN (aR s) (aD s) (nx (aM s) (aP s)) j) ∧ _ = nI (updN (aW s) (aD s) (opd s) (j - 1))
          unfold updN
          rw [if_neg (c := j - 1 = aD s) (by omega)]
          by_cases e : j = aD s
          · rw [if_pos e, e, upd_k, upd_k]; exact ⟨rfl, rfl⟩
          · rw [if_neg e, upd_j e, upd_j e]; exact rs j j1 (by omega)
    refine ⟨fun z => ⟨vin (by omega) (by omega), fun T9 e9 => fin1 (aX s) (by rw [if_neg (by omega)]) T9 e9⟩, fun z => ⟨vin (by omega) (by omega), fun T9 e9 => fin1 (aD s + 1) (by rw [if_pos (by omega)]) T9 e9⟩⟩
