/-! the class's run -/
theorem s_step47 {o m w n op' : Nat} {bg : Nat → Nat} {s : Ab} {T : St} {j : Int32} {post : St → Prop} (G : Og o m w) (hn : n ≤ 10) (hW : WF n s) (c0 : aF s = 0) (hR : RC o m w s T) (hop1 : op' < 256) (hop2 : hop (kd s) = true → op' = opd s) (hbg : ∀ r, r < n → T.1 (27 + 9 * r) 3 = nI (bg r)) (hj : (j = 1 ∧ Bm m T s) ∨ (j = 0 ∧ ¬ Bm m T s))
    (hp : ∀ T', RC o m w (nxt n bg s) T' → Off o w (cbec m (awr s).1 (awr s).2 T) T' → (12 < kd s → T'.1 o 11 = T.1 o 11 ∧ T'.1 o 12 = T.1 o 12) → (¬ 12 < kd s → Bm m T s → T'.1 o 11 = T.1 o 11 + 1 ∧ T'.1 o 12 = T.1 o 12) → (¬ 12 < kd s → ¬ Bm m T s → T'.1 o 11 = T.1 o 11 ∧ T'.1 o 12 = T.1 o 12 + 1) → post T') : wj_X0_step_47 o (nI n) j (sv (sv T o 9 (nI (kd s))) o 10 (nI op')) post := by
  have hG := G
  obtain ⟨gm, gw', g⟩ := G
  obtain ⟨r4, r5, r6, r7, r8, r15, rs, rb, rc⟩ := hR
  have hk256 : kd s < 256 := hW.2.2.2.2.2.1 _ hW.1
  obtain ⟨T1, e1⟩ : ∃ T1, T1 = sv (sv T o 9 (nI (kd s))) o 10 (nI op') := ⟨_, rfl⟩
  rw [← e1]
  have t9 : T1.1 o 9 = nI (kd s) := by rw [e1, sv_j (by decide), sv_k]
  have t10 : T1.1 o 10 = nI op' := by rw [e1, sv_k]
  have tj : ∀ j, j ≠ 9 → j ≠ 10 → T1.1 o j = T.1 o j := fun j a b => by rw [e1, sv_j b, sv_j a]
  have to : ∀ j, j ≠ o → T1.1 j = T.1 j := fun j a => by rw [e1, sv_ne a, sv_ne a]
  have tO : Off o w T T1 := by rw [e1]; exact Off.sv.tr Off.sv
  have main : ∀ (f : Nat), f = 11 ∨ f = 12 → ¬ 12 < kd s → P90 o m w s op' T (sv T1 o f (T1.1 o f + 1)) := fun f hf c1 => by
    refine ⟨⟨?_, ?_, ?_, ?_, ?_, ?_, ?_, ?_⟩, fun j hj => ?_, fun p hp => ?_, ?_, tO.tr Off.sv⟩
    · rw [sv_j (by omega), tj 4 (by decide) (by decide)]; exact r4
    · rw [sv_j (by omega), tj 5 (by decide) (by decide)]; exact r5
    · rw [sv_j (by omega), tj 6 (by decide) (by decide)]; exact r6
    · rw [sv_j (by omega), tj 7 (by decide) (by decide)]; exact r7
    · rw [sv_j (by omega), tj 8 (by decide) (by decide)]; exact r8
    · rw [sv_j (by omega), tj 15 (by decide) (by decide), r15]; exact c0
    · rw [sv_j (by omega)]; exact t9
    · rw [sv_j (by omega)]; exact t10
    · rw [sv_ne (by omega), sv_ne (by omega), to w (by omega), to (w + 1) (by omega)]; exact rs j hj
    · rw [sv_ne (by omega), to (m + 1) (by omega)]; exact rb p hp
    · rw [← nI_1, ← rc]
      rcases hf with rfl | rfl
      · rw [sv_k, sv_j (by decide), tj 11 (by decide) (by decide), tj 12 (by decide) (by decide), Int32.add_assoc, Int32.add_comm 1, ← Int32.add_assoc]
      · rw [sv_k, sv_j (by decide), tj 11 (by decide) (by decide), tj 12 (by decide) (by decide), ← Int32.add_assoc]
  unfold wj_X0_step_47
  rw [t9]
  refine s_isKind hk256 (fun hk => ⟨fun _ => ⟨fun hz => ?_, fun hz => ?_⟩, fun u => absurd u (by decide)⟩) (fun hk => ⟨fun u => absurd rfl u, fun _ => ?_⟩)
  · have hnb : ¬ Bm m T s := by
      rcases hj with ⟨e, b⟩ | ⟨e, b⟩
      · rw [e] at hz; exact absurd hz (by decide)
      · exact b
    refine s_step90 hG hn hW (main 12 (Or.inr rfl) (by omega)) hop1 hop2 c0 (by omega) hbg (fun T' a b c d => hp T' a b (fun z => by omega) (fun _ z => absurd z hnb) (fun _ _ => ?_))
    rw [c, d, sv_j (by decide), sv_k, tj 11 (by decide) (by decide), tj 12 (by decide) (by decide)]
    exact ⟨rfl, rfl⟩
  · have hb : Bm m T s := by
      rcases hj with ⟨e, b⟩ | ⟨e, b⟩
      · exact b
      · exact absurd e hz
    refine s_step90 hG hn hW (main 11 (Or.inl rfl) (by omega)) hop1 hop2 c0 (by omega) hbg (fun T' a b c d => hp T' a b (fun z => by omega) (fun _ _ => ?_) (fun _ z => absurd hb z))
    rw [c, d, sv_k, sv_j (by decide), tj 11 (by decide) (by decide), tj 12 (by decide) (by decide)]
    exact ⟨rfl, rfl⟩
  · refine hp _ ?_ (by rw [cbec_no rb (fun _ => by omega)]; exact tO.tr Off.sv) (fun _ => ?_) (fun z => absurd hk z) (fun z => absurd hk z)
    · rw [nxt_bad c0 hk]
      refine ⟨by rw [sv_j (by decide), tj 4 (by decide) (by decide)]; exact r4, by rw [sv_j (by decide), tj 5 (by decide) (by decide)]; exact r5, by rw [sv_j (by decide), tj 6 (by decide) (by decide)]; exact r6, by rw [sv_j (by decide), tj 7 (by decide) (by decide)]; exact r7, by rw [sv_j (by decide), tj 8 (by decide) (by decide)]; exact r8, sv_k, fun j hj => ?_, fun p hp => ?_, ?_⟩
      · rw [sv_ne (by omega), sv_ne (by omega), to w (by omega), to (w + 1) (by omega)]; exact rs j hj
      · rw [sv_ne (by omega), to (m + 1) (by omega)]; exact rb p hp
      · rw [sv_j (by decide), sv_j (by decide), tj 11 (by decide) (by decide), tj 12 (by decide) (by decide)]; exact rc
    · rw [sv_j (by decide), sv_j (by decide), tj 11 (by decide) (by decide), tj 12 (by decide) (by decide)]; exact ⟨rfl, rfl⟩
theorem s_step {o m w n : Nat} {bg : Nat → Nat} {s : Ab} {T : St} {post : St → Prop} (G : Og o m w) (hn : n ≤ 10) (hW : WF n s) (c0 : aF s = 0) (hR : RC o m w s T) (hV : LV (T.1 m 2) (aM s) T) (hbg : ∀ r, r < n → T.1 (27 + 9 * r) 3 = nI (bg r))
    (hp : ∀ T', RC o m w (nxt n bg s) T' → Off o w (cbec m (awr s).1 (awr s).2 T) T' → (12 < kd s → T'.1 o 11 = T.1 o 11 ∧ T'.1 o 12 = T.1 o 12) → (¬ 12 < kd s → Bm m T s → T'.1 o 11 = T.1 o 11 + 1 ∧ T'.1 o 12 = T.1 o 12) → (¬ 12 < kd s → ¬ Bm m T s → T'.1 o 11 = T.1 o 11 ∧ T'.1 o 12 = T.1 o 12 + 1) → post T') : wp_X0_step o (nI n) T post := by
  have hG := G
  obtain ⟨gm, gw', g⟩ := G
  obtain ⟨r4, r5, r6, r7, r8, r15, rs, rb, rc⟩ := id hR
  have w1 := hW.1
  have hl : (aP s + 1) % 256 < 256 := Nat.mod_lt _ (by omega)
  unfold wp_X0_step
  refine s_fetch hG hn hW hR hV (fun op' h1 h2 hb => ⟨fun _ => s_step47 hG hn hW c0 hR h1 h2 hbg (Or.inl ⟨rfl, hb⟩) hp, fun u => absurd u (by decide)⟩) (fun hb => ⟨fun u => absurd rfl u, fun _ => ?_⟩)
  rw [gm, r8, cl (by omega), (rb _ w1).1, sv_j (by decide), r8, show (nI (aP s) + 1) &&& 255 = nI ((aP s + 1) % 256) by rw [n_1]; exact nI_m255 (by omega), cl (by omega), sv_ne (by omega), (rb _ hl).1]
  refine ⟨vin w1 (by omega), vin hl (by omega), ?_⟩
  rintro T31 rfl
  exact s_step47 (op' := opd s) hG hn hW c0 hR (rb _ hl).2 (fun _ => rfl) hbg (Or.inr ⟨rfl, hb⟩) hp
/-! the whole of it -/
def cseqm (m : Nat) (C : St) (ps vs : Nat → Nat) : Nat → St
  | 0 => C
  | k + 1 => cbec m (ps k) (vs k) (cseqm m C ps vs k)
def xwP (n : Nat) (bg : Nat → Nat) (s : Ab) (k : Nat) : Nat := (awr (its n bg s k)).1
def xwV (n : Nat) (bg : Nat → Nat) (s : Ab) (k : Nat) : Nat := (awr (its n bg s k)).2
noncomputable def mbs (m n : Nat) (bg : Nat → Nat) (s : Ab) (C : St) : Nat → Nat
  | 0 => 0
  | k + 1 => mbs m n bg s C k + @ite _ (aF (its n bg s k) = 0 ∧ ¬ 12 < kd (its n bg s k) ∧ Bm m (cseqm m C (xwP n bg s) (xwV n bg s) k) (its n bg s k)) (Classical.propDecidable _) 1 0
theorem mbs_y {m n : Nat} {bg : Nat → Nat} {s : Ab} {C : St} {k : Nat} (h : aF (its n bg s k) = 0 ∧ ¬ 12 < kd (its n bg s k) ∧ Bm m (cseqm m C (xwP n bg s) (xwV n bg s) k) (its n bg s k)) : mbs m n bg s C (k + 1) = mbs m n bg s C k + 1 := by
  show _ + @ite _ _ (Classical.propDecidable _) 1 0 = _
  rw [@if_pos _ (Classical.propDecidable _) h]
theorem mbs_n {m n : Nat} {bg : Nat → Nat} {s : Ab} {C : St} {k : Nat} (h : ¬ (aF (its n bg s k) = 0 ∧ ¬ 12 < kd (its n bg s k) ∧ Bm m (cseqm m C (xwP n bg s) (xwV n bg s) k) (its n bg s k))) : mbs m n bg s C (k + 1) = mbs m n bg s C k := by
  show _ + @ite _ _ (Classical.propDecidable _) 1 0 = _
  rw [@if_neg _ (Classical.propDecidable _) h]
  rfl
theorem Bm_off {o m w : Nat} {s : Ab} {T T' : St} (G : Og o m w) (h : Off o w T T') (hr : rW s < 10) : Bm m T' s ↔ Bm m T s := by
  obtain ⟨-, -, g⟩ := G
  have e27 : T'.1 (27 + 9 * rW s) = T.1 (27 + 9 * rW s) := h.1 _ (by omega) (by omega) (by omega)
  have ecu : cu T' (rW s) = cu T (rW s) := by unfold cu; rw [e27]
  have hmb := mb_in (rW s) (T.1 (27 + 9 * rW s) 0)
  have hcu : cu T (rW s) = mb (27 + 9 * rW s) (T.1 (27 + 9 * rW s) 0) := rfl
  unfold Bm
  rw [ecu, h.1 m (by omega) (by omega) (by omega), h.1 (cu T (rW s)) (by omega) (by omega) (by omega), h.1 (cu T (rW s) + 1) (by omega) (by omega) (by omega)]
/-- the class at step k -/
def JC (o m w n : Nat) (bg : Nat → Nat) (s : Ab) (C : St) (k : Nat) (T : St) : Prop := RC o m w (its n bg s k) T ∧ LV (T.1 m 2) (aM (its n bg s k)) T ∧ Off o w (cseqm m C (xwP n bg s) (xwV n bg s) k) T ∧ (mbs m n bg s C k ≤ aC (its n bg s k) ∧ aC (its n bg s k) ≤ k) ∧ T.1 o 11 = nI (mbs m n bg s C k) ∧ T.1 o 12 = nI (aC (its n bg s k) - mbs m n bg s C k)
theorem cseqm_end {m n : Nat} {bg : Nat → Nat} {s : Ab} {C : St} {k : Nat} (h : ¬ aF (its n bg s k) = 0) (hB : By (m + 1) (aM (its n bg s k)) (cseqm m C (xwP n bg s) (xwV n bg s) k)) : ∀ j, cseqm m C (xwP n bg s) (xwV n bg s) (k + j) = cseqm m C (xwP n bg s) (xwV n bg s) k
  | 0 => rfl
  | j + 1 => by
    show cbec m (awr (its n bg s (k + j))).1 (awr (its n bg s (k + j))).2 (cseqm m C (xwP n bg s) (xwV n bg s) (k + j)) = _
    rw [cseqm_end h hB j, its_end h j]
    exact cbec_no hB (fun z => absurd z h)
theorem mbs_end {m n : Nat} {bg : Nat → Nat} {s : Ab} {C : St} {k : Nat} (h : ¬ aF (its n bg s k) = 0) : ∀ j, mbs m n bg s C (k + j) = mbs m n bg s C k
  | 0 => rfl
  | j + 1 => by
    have : ¬ aF (its n bg s (k + j)) = 0 := by rw [its_end h j]; exact h
    show mbs m n bg s C (k + j + 1) = _
    rw [mbs_n (fun z => this z.1), mbs_end h j]
theorem JC.fin {o m w n k N : Nat} {bg : Nat → Nat} {s : Ab} {C T : St} (G : Og o m w) (h : JC o m w n bg s C k T) (hf : ¬ aF (its n bg s k) = 0) (hk : k ≤ N) : JC o m w n bg s C N T := by
  obtain ⟨-, -, g⟩ := G
  obtain ⟨h1, h2, h3, h4, h5, h6⟩ := h
  have hB : By (m + 1) (aM (its n bg s k)) (cseqm m C (xwP n bg s) (xwV n bg s) k) := fun p hp => by rw [← h3.1 (m + 1) (by omega) (by omega) (by omega)]; exact h1.2.2.2.2.2.2.2.1 p hp
  obtain ⟨j, rfl⟩ : ∃ j, N = k + j := ⟨N - k, by omega⟩
  unfold JC
  rw [its_end hf j, cseqm_end hf hB j, mbs_end hf j]
  exact ⟨h1, h2, h3, ⟨h4.1, by omega⟩, h5, h6⟩
theorem cseqm_ne {m : Nat} {C : St} {ps vs : Nat → Nat} {j : Nat} (h1 : j ≠ m) (h2 : j ≠ m + 1) : ∀ k, (cseqm m C ps vs k).1 j = C.1 j
  | 0 => rfl
  | k + 1 => by show (cbec m _ _ _).1 j = _; rw [cbec_ne h1 h2, cseqm_ne h1 h2 k]
theorem cseqm_3 {m : Nat} {C : St} {ps vs : Nat → Nat} : ∀ k, (cseqm m C ps vs k).1 m 3 = C.1 m 3
  | 0 => rfl
  | k + 1 => by show (cbec m _ _ _).1 m 3 = _; rw [cbec_f3, cseqm_3 k]
theorem s_follow {o m w n N : Nat} {bg : Nat → Nat} {s : Ab} {C : St} {post : St → Prop} (G : Og o m w) (hn : n ≤ 10) (hN : N ≤ 400) (hW : WF n s) (hF0 : aF s = 0) (hC0 : aC s = 0) (hR : RC o m w s C) (hV : LV (C.1 m 2) (aM s) C) (hbg : ∀ r, r < n → C.1 (27 + 9 * r) 3 = nI (bg r) ∧ bg r < 256) (h11 : C.1 o 11 = 0 ∧ C.1 o 12 = 0) (hlb : ∀ i, 10 ≤ i → bt (C.1 m 3) i = false)
    (hp : ∀ T T', JC o m w n bg s C N T → (∀ j, j ≠ 13 → j ≠ 14 → j ≠ 15 → T'.1 o j = T.1 o j) → T'.1 o 15 = (if aF (its n bg s N) = 0 then -4 else aF (its n bg s N)) → T'.1 o 13 = nI (cnt (bt (T.1 m 3 &&& (T.1 m 2 ^^^ (-1)))) 10) → T'.1 o 14 = T.1 m 5 → (∀ j, j ≠ o → T'.1 j = T.1 j) → T'.2 = T.2 → post T') : wp_X0_follow o (nI N) (nI n) C post := by
  have hG := G
  obtain ⟨gm, gw', g⟩ := G
  -- the end
  have fin : ∀ T, JC o m w n bg s C N T → wj_X0_follow_25 o T post := by
    intro T hJ
    have hm3 : T.1 m 3 = C.1 m 3 := by rw [hJ.2.2.1.1 m (by omega) (by omega) (by omega), cseqm_3]
    have f15 : T.1 o 15 = aF (its n bg s N) := hJ.1.2.2.2.2.2.1
    have go : ∀ T2 : St, (∀ j, j ≠ 15 → T2.1 o j = T.1 o j) → T2.1 o 15 = (if aF (its n bg s N) = 0 then -4 else aF (its n bg s N)) → (∀ j, j ≠ o → T2.1 j = T.1 j) → T2.2 = T.2 → wj_X0_follow_38 o T2 post := by
      intro T2 t1 t2 t3 t4
      unfold wj_X0_follow_38
      rw [gm, t3 m (by omega)]
      refine s_bitCount (fun i hi => ?_) ?_
      · rw [b_and, hm3, hlb i hi]; rfl
      · refine hp T _ hJ (fun j a b c => by rw [sv_j b, sv_j a, t1 j c]) (by rw [sv_j (by decide), sv_j (by decide), t2]) (by rw [sv_j (by decide), sv_k]) (by rw [sv_k, sv_ne (by omega), t3 m (by omega)]) (fun j a => by rw [sv_ne a, sv_ne a, t3 j a]) (by rw [sv2, sv2, t4])
    unfold wj_X0_follow_25
    rw [f15]
    refine ⟨fun z => go T (fun _ _ => rfl) (by rw [if_neg z]; exact f15) (fun _ _ => rfl) rfl, fun z => go _ (fun j a => sv_j a) (by rw [sv_k, if_pos z]) (fun j a => sv_ne a) rfl⟩
  unfold wp_X0_follow
  refine LW_cnt N (fun k T => JC o m w n bg s C k T) ⟨hR, hV, Off.rf, ⟨Nat.zero_le _, by show aC s ≤ 0; omega⟩, h11.1, by show C.1 o 12 = nI (aC s - 0); rw [hC0]; exact h11.2⟩ ?_
  rintro k T hk hJ kk hkk
  unfold wb_X0_follow_2
  rw [leN (by omega) (by omega)]
  refine ⟨fun q => fin T (by rw [show N = k by omega]; exact hJ), fun q => ?_⟩
  have f15 : T.1 o 15 = aF (its n bg s k) := hJ.1.2.2.2.2.2.1
  rw [f15]
  refine ⟨fun z => fin T (hJ.fin hG z hk), fun z => ?_⟩
  obtain ⟨h1, h2, h3, h4, h5, h6⟩ := hJ
  have hWk := wf_its hW (fun r hr => (hbg r hr).2) k
  have hbk : ∀ r, r < n → T.1 (27 + 9 * r) 3 = nI (bg r) := fun r hr => by rw [h3.1 _ (by omega) (by omega) (by omega), cseqm_ne (by omega) (by omega)]; exact (hbg r hr).1
  have hrw : rW (its n bg s k) < 10 := by have := hWk.2.2.2.1 (aD (its n bg s k) - 1) (by have := hWk.2.1; omega); unfold rW; omega
  refine s_step hG hn hWk z h1 h2 hbk (fun T' a b c1 c2 c3 => hkk T' (by omega) ?_)
  have hwl := awr_lt hWk
  have hcc := cbec_cg (p := (awr (its n bg s k)).1) (v := (awr (its n bg s k)).2) hG h3
  have hC := its_C (n := n) (bg := bg) hC0 k z
  have hBm := Bm_off (s := its n bg s k) hG h3 hrw
  refine ⟨a, ?_, hcc.tr b, ?_⟩
  · show LV (T'.1 m 2) (aM (nxt n bg (its n bg s k))) T'
    rw [nxt_M]
    exact LV.step hG h2 h1.2.2.2.2.2.2.2.1 hwl.1 hwl.2 b
  · by_cases hk12 : 12 < kd (its n bg s k)
    · have eC : aC (its n bg s (k + 1)) = aC (its n bg s k) := by show aC (nxt n bg (its n bg s k)) = _; rw [nxt_bad z hk12]; rfl
      rw [mbs_n (fun u => u.2.1 hk12), eC, (c1 hk12).1, (c1 hk12).2]
      exact ⟨⟨h4.1, by omega⟩, h5, h6⟩
    · have eC : aC (its n bg s (k + 1)) = aC (its n bg s k) + 1 := by
        show aC (nxt n bg (its n bg s k)) = _
        by_cases d2 : kd (its n bg s k) = 0
        · by_cases d3 : aD (its n bg s k) = 1
          · rw [nxt_over z d2 d3]; rfl
          · rw [nxt_back z d2 d3]; rfl
        · by_cases d3 : kd (its n bg s k) = 9
          · by_cases d4 : aD (its n bg s k) = 6
            · rw [nxt_deep z d3 d4]; rfl
            · by_cases d5 : opd (its n bg s k) < n
              · rw [nxt_call z d3 d4 d5]; rfl
              · rw [nxt_none z d3 d4 d5]; rfl
          · rw [nxt_act z hk12 d2 d3]; rfl
      by_cases hb : Bm m T (its n bg s k)
      · rw [mbs_y ⟨z, hk12, hBm.mp hb⟩, eC, (c2 hk12 hb).1, (c2 hk12 hb).2, h5, h6, nI_1]
        exact ⟨⟨by omega, by omega⟩, rfl, by rw [Nat.add_sub_add_right]⟩
      · rw [mbs_n (fun u => hb (hBm.mpr u.2.2)), eC, (c3 hk12 hb).1, (c3 hk12 hb).2, h5, h6, nI_1]
        exact ⟨⟨by omega, by omega⟩, rfl, by rw [Nat.sub_add_comm h4.1]⟩
