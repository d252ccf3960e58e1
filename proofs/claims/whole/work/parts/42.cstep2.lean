/-! the class's step, behind the fetch -/
def P90 (o m w : Nat) (s : Ab) (op' : Nat) (T T10 : St) : Prop := (T10.1 o 4 = nI (aD s) ∧ T10.1 o 5 = nI (aX s) ∧ T10.1 o 6 = aA s ∧ T10.1 o 7 = aB s ∧ T10.1 o 8 = nI (aP s) ∧ T10.1 o 15 = 0 ∧ T10.1 o 9 = nI (kd s) ∧ T10.1 o 10 = nI op') ∧ (∀ j, j < aD s → T10.1 w j = nI (aW s j) ∧ T10.1 (w + 1) j = nI (aR s j)) ∧ By (m + 1) (aM s) T10 ∧ T10.1 o 11 + T10.1 o 12 = nI (aC s + 1) ∧ Off o w T T10
theorem by_cbec {m p v : Nat} {mem : Nat → Nat} {T : St} (h : By (m + 1) mem T) (hp : p < 256) (hv : v < 256) : By (m + 1) (mu mem p v) (cbec m p v T) := by
  by_cases hq : T.1 (m + 1) p = nI v
  · rw [cbec_same hq, show v = mem p from ((nIb h hp hv).mp hq).symm, mu_same]; exact h
  · intro q hq'
    rw [cbec_by hq]
    by_cases e : q = p
    · subst e; rw [upd_k, mu_k]; exact ⟨rfl, hv⟩
    · rw [upd_j e, mu_j e]; exact h q hq'
theorem cbec_no {m : Nat} {s : Ab} {T : St} (h : By (m + 1) (aM s) T) (hk : aF s = 0 → kd s ≠ 5 ∧ kd s ≠ 11) : cbec m (awr s).1 (awr s).2 T = T := by
  rw [awr_no hk]
  exact cbec_same (h 0 (by omega)).1
theorem act_fin {o m w n op' : Nat} {bg : Nat → Nat} {s : Ab} {T T10 T' : St} {post : St → Prop} (G : Og o m w) (hW : WF n s) (h : P90 o m w s op' T T10) (c0 : aF s = 0) (c1 : ¬ 12 < kd s) (c2 : kd s ≠ 0) (c3 : kd s ≠ 9) (e6 : T'.1 o 6 = fA s) (e7 : T'.1 o 7 = fB s) (e8 : T'.1 o 8 = nI (fP s)) (eo : ∀ j, j ≠ 6 → j ≠ 7 → j ≠ 8 → T'.1 o j = T10.1 o j) (ej : ∀ j, j ≠ o → T'.1 j = (cbec m (awr s).1 (awr s).2 T10).1 j) (e2 : T'.2 = T10.2)
    (hp : ∀ T', RC o m w (nxt n bg s) T' → Off o w (cbec m (awr s).1 (awr s).2 T) T' → T'.1 o 11 = T10.1 o 11 → T'.1 o 12 = T10.1 o 12 → post T') : post T' := by
  have hw := awr_lt hW
  have hc := cbec_cg (p := (awr s).1) (v := (awr s).2) G h.2.2.2.2
  have hB := by_cbec h.2.2.1 hw.1 hw.2
  obtain ⟨-, -, g⟩ := G
  obtain ⟨⟨r4, r5, r6, r7, r8, r15, r9, r10⟩, rs, rb, rc, rO⟩ := h
  refine hp T' ?_ ⟨fun j a b c => by rw [ej j a]; exact hc.1 j a b c, by rw [e2, rO.2, cbec_2]⟩ (eo 11 (by decide) (by decide) (by decide)) (eo 12 (by decide) (by decide) (by decide))
  rw [nxt_act c0 c1 c2 c3]
  refine ⟨by rw [eo 4 (by decide) (by decide) (by decide)]; exact r4, by rw [eo 5 (by decide) (by decide) (by decide)]; exact r5, e6, e7, e8, by rw [eo 15 (by decide) (by decide) (by decide)]; exact r15, fun j hj => ?_, fun p hp => by rw [ej (m + 1) (by omega)]; exact hB p hp, by rw [eo 11 (by decide) (by decide) (by decide), eo 12 (by decide) (by decide) (by decide)]; exact rc⟩
  rw [ej w (by omega), ej (w + 1) (by omega), cbec_ne (by omega) (by omega), cbec_ne (by omega) (by omega)]
  exact rs j hj
theorem end_fin {o m w n op' : Nat} {bg : Nat → Nat} {s : Ab} {T T10 : St} {f : Int32} {post : St → Prop} (G : Og o m w) (h : P90 o m w s op' T T10) (hk : aF s = 0 → kd s ≠ 5 ∧ kd s ≠ 11) (en : nxt n bg s = (aA s, aB s, aP s, aD s, aX s, aW s, aR s, aM s, f, aC s + 1))
    (hp : ∀ T', RC o m w (nxt n bg s) T' → Off o w (cbec m (awr s).1 (awr s).2 T) T' → T'.1 o 11 = T10.1 o 11 → T'.1 o 12 = T10.1 o 12 → post T') : post (sv T10 o 15 f) := by
  obtain ⟨-, -, g⟩ := G
  obtain ⟨⟨r4, r5, r6, r7, r8, r15, r9, r10⟩, rs, rb, rc, rO⟩ := h
  have hB : By (m + 1) (aM s) T := fun p hp => by rw [← rO.1 (m + 1) (by omega) (by omega) (by omega)]; exact rb p hp
  refine hp _ ?_ (by rw [cbec_no hB hk]; exact rO.tr Off.sv) (sv_j (by decide)) (sv_j (by decide))
  rw [en]
  refine ⟨by rw [sv_j (by decide)]; exact r4, by rw [sv_j (by decide)]; exact r5, by rw [sv_j (by decide)]; exact r6, by rw [sv_j (by decide)]; exact r7, by rw [sv_j (by decide)]; exact r8, sv_k, fun j hj => ?_, fun p hp => by rw [sv_ne (by omega)]; exact rb p hp, by rw [sv_j (by decide), sv_j (by decide)]; exact rc⟩
  rw [sv_ne (by omega), sv_ne (by omega)]; exact rs j hj
theorem and_add255 (x y : Int32) : ((y &&& 255) + x) &&& 255 = (y + x) &&& 255 := by
  refine b_ext (fun i hi => ?_)
  rw [b_and, b_and, b32_255 i hi]
  by_cases h8 : i < 8
  · have key : ∀ z : Int32, bt z i = ((BitVec.setWidth 8 z.toBitVec).getLsbD i) := fun z => by rw [BitVec.getLsbD_setWidth]; simp [h8, bt]
    rw [key, key, Int32.toBitVec_add, Int32.toBitVec_add, BitVec.setWidth_add _ _ (by omega), BitVec.setWidth_add _ _ (by omega)]
    have : BitVec.setWidth 8 (y &&& 255).toBitVec = BitVec.setWidth 8 y.toBitVec := by
      refine BitVec.eq_of_getLsbD_eq (fun j hj => ?_)
      rw [BitVec.getLsbD_setWidth, BitVec.getLsbD_setWidth]
      have : bt (y &&& 255) j = bt y j := by rw [b_and, b32_255 j (by omega)]; simp [hj]
      unfold bt at this
      rw [this]
    rw [this]
  · simp [h8]
theorem s_step90 {o m w n op' : Nat} {bg : Nat → Nat} {s : Ab} {T T10 : St} {post : St → Prop} (G : Og o m w) (hn : n ≤ 10) (hW : WF n s) (h : P90 o m w s op' T T10) (hop1 : op' < 256) (hop2 : hop (kd s) = true → op' = opd s) (c0 : aF s = 0) (c1 : ¬ 12 < kd s) (hbg : ∀ r, r < n → T.1 (27 + 9 * r) 3 = nI (bg r))
    (hp : ∀ T', RC o m w (nxt n bg s) T' → Off o w (cbec m (awr s).1 (awr s).2 T) T' → T'.1 o 11 = T10.1 o 11 → T'.1 o 12 = T10.1 o 12 → post T') : wj_X0_step_90 o (nI n) T10 post := by
  have hG := G
  obtain ⟨gm, gw', g⟩ := G
  obtain ⟨⟨r4, r5, r6, r7, r8, r15, r9, r10⟩, rs, rb, rc, rO⟩ := id h
  obtain ⟨w1, w2, w3, w4, w5, w6, w7⟩ := id hW
  have hBT : By (m + 1) (aM s) T := fun p hp => by rw [← rO.1 (m + 1) (by omega) (by omega) (by omega)]; exact rb p hp
  have hln : ln (kd s) ≤ 2 := by unfold ln; split <;> omega
  have ebh : (nI (aP s) + nI (ln (kd s))) &&& 255 = nI (nx (aM s) (aP s)) := nI_m255 (by omega)
  unfold wj_X0_step_90
  rw [r9, r8]
  refine s_lengthOf (by omega) ?_
  rw [r9, ebh]
  have k0 : nI (kd s) = 0 ↔ kd s = 0 := by rw [n_0, nIe (by omega) (by omega)]
  have kk : ∀ j, j ≤ 12 → (nI (kd s) = nI j ↔ kd s = j) := fun j hj => nIe (by omega) (by omega)
  refine ⟨fun z0 => ⟨fun z9 => ?_, fun z9 => ?_⟩, fun z0 => ?_⟩
  · rw [k0] at z0
    rw [n_9, kk 9 (by omega)] at z9
    refine s_canGo (by omega) (fun hg => ⟨fun u => absurd u (by decide), fun _ => ?_⟩) (fun hg => ⟨fun _ => ?_, fun u => absurd rfl u⟩)
    · -- it may go elsewhere
      have hk678 : kd s = 6 ∨ kd s = 7 ∨ kd s = 8 := cge_iff.mp hg
      have ho := cge_hop hg
      have eop := hop2 ho
      have hcb : cbec m (awr s).1 (awr s).2 T10 = T10 := cbec_no rb (fun _ => by omega)
      have eot : (nI (nx (aM s) (aP s)) + sx op') &&& 255 = nI (ot (aM s) (aP s)) := by
        have hl2 : ln (kd s) = 2 := by unfold ln; rw [if_pos ho]
        rw [← ebh, and_add255, hl2]
        have := (oi_ok (aP s) (aM s ((aP s + 1) % 256))).2
        unfold oi at this
        rw [eop]
        exact this
      have fa0 : fA s = aA s := by unfold fA; rw [if_neg (by omega), if_neg (by omega), if_neg (by omega), if_neg (by omega), if_neg (by omega), if_neg (by omega)]
      unfold wp_X0_goesElsewhere
      rw [r9, show (7 : Int32) = nI 7 from rfl, kk 7 (by omega), n_8, kk 8 (by omega)]
      refine ⟨fun n7 => ⟨fun n8 => ⟨fun u => absurd u (by decide), fun _ => ?_⟩, fun e8 => ?_⟩, fun e7 => ?_⟩
      · have k6 : kd s = 6 := by omega
        rw [r10]
        show post (sv T10 o 8 ((nI (nx (aM s) (aP s)) + sx op') &&& 255))
        rw [eot]
        have fb0 : fB s = aB s := by unfold fB; rw [if_neg (by omega), if_neg (by omega)]
        have fp0 : fP s = ot (aM s) (aP s) := by unfold fP; rw [if_pos (Or.inl k6)]
        exact act_fin (n := n) (bg := bg) hG hW h c0 c1 z0 z9 (by rw [sv_j (by decide), r6, fa0]) (by rw [sv_j (by decide), r7, fb0]) (by rw [sv_k, fp0]) (fun j a b c => sv_j c) (fun j a => by rw [hcb]; exact sv_ne a) rfl hp
      · have fb0 : fB s = aB s - 1 := by unfold fB; rw [if_neg (by omega), if_pos e8]
        rw [sv_k, r7]
        refine ⟨fun u => ⟨fun _ => ?_, fun v => absurd rfl v⟩, fun u => ⟨fun v => absurd v (by decide), fun _ => ?_⟩⟩
        · have fp0 : fP s = nx (aM s) (aP s) := by
            unfold fP
            rw [if_neg (fun z => by rcases z with z | z | z; omega; omega; rw [fb0] at z; exact z.2 u)]
          exact act_fin (n := n) (bg := bg) hG hW h c0 c1 z0 z9 (by rw [sv_j (by decide), sv_j (by decide), r6, fa0]) (by rw [sv_j (by decide), sv_k, fb0]) (by rw [sv_k, fp0]) (fun j a b c => by rw [sv_j c, sv_j b]) (fun j a => by rw [hcb, sv_ne a, sv_ne a]) rfl hp
        · have fp0 : fP s = ot (aM s) (aP s) := by unfold fP; rw [if_pos (Or.inr (Or.inr ⟨e8, by rw [fb0]; exact u⟩))]
          rw [sv_j (by decide), r10]
          show post (sv (sv T10 o 7 (aB s - 1)) o 8 ((nI (nx (aM s) (aP s)) + sx op') &&& 255))
          rw [eot]
          exact act_fin (n := n) (bg := bg) hG hW h c0 c1 z0 z9 (by rw [sv_j (by decide), sv_j (by decide), r6, fa0]) (by rw [sv_j (by decide), sv_k, fb0]) (by rw [sv_k, fp0]) (fun j a b c => by rw [sv_j c, sv_j b]) (fun j a => by rw [hcb, sv_ne a, sv_ne a]) rfl hp
      · have fb0 : fB s = aB s := by unfold fB; rw [if_neg (by omega), if_neg (by omega)]
        rw [r6]
        refine ⟨fun u => ⟨fun _ => ?_, fun v => absurd rfl v⟩, fun u => ⟨fun v => absurd v (by decide), fun _ => ?_⟩⟩
        · have fp0 : fP s = nx (aM s) (aP s) := by
            unfold fP
            rw [if_neg (fun z => by rcases z with z | z | z; omega; rw [fa0] at z; exact u z.2; omega)]
          exact act_fin (n := n) (bg := bg) hG hW h c0 c1 z0 z9 (by rw [sv_j (by decide), r6, fa0]) (by rw [sv_j (by decide), r7, fb0]) (by rw [sv_k, fp0]) (fun j a b c => sv_j c) (fun j a => by rw [hcb]; exact sv_ne a) rfl hp
        · have fp0 : fP s = ot (aM s) (aP s) := by unfold fP; rw [if_pos (Or.inr (Or.inl ⟨e7, by rw [fa0]; exact u⟩))]
          rw [r10]
          show post (sv T10 o 8 ((nI (nx (aM s) (aP s)) + sx op') &&& 255))
          rw [eot]
          exact act_fin (n := n) (bg := bg) hG hW h c0 c1 z0 z9 (by rw [sv_j (by decide), r6, fa0]) (by rw [sv_j (by decide), r7, fb0]) (by rw [sv_k, fp0]) (fun j a b c => sv_j c) (fun j a => by rw [hcb]; exact sv_ne a) rfl hp
    · -- a plain act
      have hn678 : ¬ (kd s = 6 ∨ kd s = 7 ∨ kd s = 8) := fun z => by rw [cge_iff.mpr z] at hg; cases hg
      have fp0 : fP s = nx (aM s) (aP s) := by unfold fP; rw [if_neg (fun z => by rcases z with z | z | z <;> omega)]
      -- one that writes no byte
      have nw : ∀ x y : Int32, kd s ≠ 5 → kd s ≠ 11 → fA s = x → fB s = y → ∀ T' : St, T'.1 o 6 = x → T'.1 o 7 = y → (∀ j, j ≠ 6 → j ≠ 7 → T'.1 o j = T10.1 o j) → (∀ j, j ≠ o → T'.1 j = T10.1 j) → T'.2 = T10.2 → post (sv T' o 8 (nI (nx (aM s) (aP s)))) := fun x y h5 h11 ex ey T' e6 e7 eo ej e2 =>
        act_fin (n := n) (bg := bg) hG hW h c0 c1 z0 z9 (by rw [sv_j (by decide), e6, ex]) (by rw [sv_j (by decide), e7, ey]) (by rw [sv_k, fp0]) (fun j a b c => by rw [sv_j c, eo j a b]) (fun j a => by rw [cbec_no rb (fun _ => ⟨h5, h11⟩), sv_ne a, ej j a]) (by rw [sv2, e2]) hp
      -- one that writes
      have yw : fA s = aA s → fB s = aB s → post (sv (cbec m (awr s).1 (awr s).2 T10) o 8 (nI (nx (aM s) (aP s)))) := fun ex ey => by
        have eo : (cbec m (awr s).1 (awr s).2 T10).1 o = T10.1 o := cbec_ne (by omega) (by omega)
        exact act_fin (n := n) (bg := bg) hG hW h c0 c1 z0 z9 (by rw [sv_j (by decide), eo, r6, ex]) (by rw [sv_j (by decide), eo, r7, ey]) (by rw [sv_k, fp0]) (fun j a b c => by rw [sv_j c, eo]) (fun j a => sv_ne a) (by rw [sv2, cbec_2]) hp
      unfold wp_X0_doPlainAct
      rw [gm, r9, r10, r6, r7, n_1, kk 1 (by omega), n_2, kk 2 (by omega), n_3, kk 3 (by omega), show (4 : Int32) = nI 4 from rfl, kk 4 (by omega), show (5 : Int32) = nI 5 from rfl, kk 5 (by omega), show (6 : Int32) = nI 6 from rfl, kk 6 (by omega), show (7 : Int32) = nI 7 from rfl, kk 7 (by omega), n_8, kk 8 (by omega), n_9, kk 9 (by omega), n_10, kk 10 (by omega), show (11 : Int32) = nI 11 from rfl, kk 11 (by omega), n_12, kk 12 (by omega)]
      refine ⟨fun k1 => ?_, fun k1 => ⟨fun k2 => ?_, fun k2 => ⟨fun k3 => ?_, fun k3 => ⟨fun k4 => ?_, fun k4 => ⟨fun k5 => ?_, fun k5 => ⟨fun k6 => by omega, fun k6 => ⟨fun k7 => by omega, fun k7 => ⟨fun k8 => by omega, fun k8 => ⟨fun k9 => by omega, fun _ => ⟨fun k10 => ?_, fun k10 => ⟨fun k11 => ?_, fun k11 => ⟨fun k12 => ?_, fun k12 => by omega⟩⟩⟩⟩⟩⟩⟩⟩⟩⟩⟩⟩
      · have eop := hop2 (hop_iff.mpr (by omega))
        exact nw (sx op') (aB s) (by omega) (by omega) (by unfold fA; rw [if_pos k1, eop]) (by unfold fB; rw [if_neg (by omega), if_neg (by omega)]) _ sv_k (by rw [sv_j (by decide), r7]) (fun j a b => sv_j a) (fun j a => sv_ne a) rfl
      · have eop := hop2 (hop_iff.mpr (by omega))
        exact nw (aA s + sx op') (aB s) (by omega) (by omega) (by unfold fA; rw [if_neg k1, if_pos k2, eop]) (by unfold fB; rw [if_neg (by omega), if_neg (by omega)]) _ sv_k (by rw [sv_j (by decide), r7]) (fun j a b => sv_j a) (fun j a => sv_ne a) rfl
      · unfold wp_X0_swap
        rw [r6, r7]
        exact nw (aB s) (aA s) (by omega) (by omega) (by unfold fA; rw [if_neg k1, if_neg k2, if_pos k3]) (by unfold fB; rw [if_pos k3]) _ (by rw [sv_j (by decide), sv_k]) sv_k (fun j a b => by rw [sv_j b, sv_j a]) (fun j a => by rw [sv_ne a, sv_ne a]) rfl
      · have eop := hop2 (hop_iff.mpr (by omega))
        rw [cl (by omega), (rb op' hop1).1]
        exact ⟨vin hop1 (by omega), nw (nI (aM s op')) (aB s) (by omega) (by omega) (by unfold fA; rw [if_neg k1, if_neg k2, if_neg k3, if_pos k4, eop]) (by unfold fB; rw [if_neg (by omega), if_neg (by omega)]) _ sv_k (by rw [sv_j (by decide), r7]) (fun j a b => sv_j a) (fun j a => sv_ne a) rfl⟩
      · have eop := hop2 (hop_iff.mpr (by omega))
        have ew : awr s = (opd s, lo8 (aA s)) := by unfold awr; rw [if_pos ⟨c0, k5⟩]
        have fa0 : fA s = aA s := by unfold fA; rw [if_neg (by omega), if_neg (by omega), if_neg (by omega), if_neg (by omega), if_neg (by omega), if_neg (by omega)]
        have fb0 : fB s = aB s := by unfold fB; rw [if_neg (by omega), if_neg (by omega)]
        rw [(lo8_ok (aA s)).2, eop]
        refine s_become (p := opd s) (by omega) (by rw [a255 (by omega), Nat.mod_eq_of_lt (by omega)]) (by omega) ?_
        have := yw fa0 fb0
        rw [ew] at this
        exact this
      · obtain ⟨b1, b2⟩ := lo8_ok (aB s)
        rw [b2, cl (by omega), (rb _ b1).1]
        exact ⟨vin b1 (by omega), nw (nI (aM s (lo8 (aB s)))) (aB s) (by omega) (by omega) (by unfold fA; rw [if_neg k1, if_neg k2, if_neg k3, if_neg k4, if_pos k10]) (by unfold fB; rw [if_neg (by omega), if_neg (by omega)]) _ sv_k (by rw [sv_j (by decide), r7]) (fun j a b => sv_j a) (fun j a => sv_ne a) rfl⟩
      · obtain ⟨b1, b2⟩ := lo8_ok (aB s)
        have ew : awr s = (lo8 (aB s), lo8 (aA s)) := by unfold awr; rw [if_neg (fun z => by omega), if_pos ⟨c0, k11⟩]
        have fa0 : fA s = aA s := by unfold fA; rw [if_neg (by omega), if_neg (by omega), if_neg (by omega), if_neg (by omega), if_neg (by omega), if_neg (by omega)]
        have fb0 : fB s = aB s := by unfold fB; rw [if_neg (by omega), if_neg (by omega)]
        rw [(lo8_ok (aA s)).2]
        refine s_become (p := lo8 (aB s)) (by omega) b2 b1 ?_
        have := yw fa0 fb0
        rw [ew] at this
        exact this
      · exact nw (aA s * aB s) (aB s) (by omega) (by omega) (by unfold fA; rw [if_neg k1, if_neg k2, if_neg k3, if_neg k4, if_neg k10, if_pos k12]) (by unfold fB; rw [if_neg (by omega), if_neg (by omega)]) _ sv_k (by rw [sv_j (by decide), r7]) (fun j a b => sv_j a) (fun j a => sv_ne a) rfl
  · -- a call
    rw [n_9, kk 9 (by omega)] at z9
    have eop := hop2 (hop_iff.mpr (by omega))
    unfold wp_X0_enterCalled
    rw [r4, r10, eop, show (6 : Int32) = nI 6 from rfl, ltN (by omega) (by omega), ltN (by rw [← eop]; omega) (by omega)]
    refine ⟨fun d6 => ⟨fun hlt => ?_, fun hlt => end_fin hG h (fun _ => by omega) (nxt_none c0 z9 (by omega) hlt) hp⟩, fun d6 => end_fin hG h (fun _ => by omega) (nxt_deep c0 z9 (by omega)) hp⟩
    refine s_enter hG r4 d6 r5 (by omega) (by omega) (by rw [rO.1 _ (by omega) (by omega) (by omega)]; exact hbg _ hlt) (fun T' tO t4 t5 t8 tj tw tw1 => ?_)
    refine hp T' ?_ (by rw [cbec_no hBT (fun _ => by omega)]; exact rO.tr tO) (tj 11 (by decide) (by decide) (by decide)) (tj 12 (by decide) (by decide) (by decide))
    rw [nxt_call c0 z9 (by omega) hlt]
    refine ⟨t4, t5, by rw [tj 6 (by decide) (by decide) (by decide)]; exact r6, by rw [tj 7 (by decide) (by decide) (by decide)]; exact r7, t8, by rw [tj 15 (by decide) (by decide) (by decide)]; exact r15, fun j hj => ?_, fun p hp => by rw [tO.1 (m + 1) (by omega) (by omega) (by omega)]; exact rb p hp, by rw [tj 11 (by decide) (by decide) (by decide), tj 12 (by decide) (by decide) (by decide)]; exact rc⟩
    have hj : j < aD s + 1 := hj
    show T'.1 w j = nI (updN (aW s) (aD s) (opd s) j) ∧ T'.1 (w + 1) j = nI (updN (aR s) (aD s) (nx (aM s) (aP s)) j)
    rw [tw, tw1]
    unfold updN
    by_cases e : j = aD s
    · rw [if_pos e, if_pos e, e, upd_k, upd_k]; exact ⟨rfl, rfl⟩
    · rw [if_neg e, if_neg e, upd_j e, upd_j e]; exact rs j (by omega)
  · -- the end of a routine
    rw [k0] at z0
    unfold wp_X0_leave
    rw [gw', r4, n_1, ltN (by omega) (by omega), pk_sub (by omega)]
    refine ⟨fun hd => ⟨by rw [sv_k]; exact vin (by omega) (by omega), ?_⟩, fun hd => end_fin hG h (fun _ => by omega) (nxt_over c0 z0 (by omega)) hp⟩
    rintro T3 e3
    rw [sv_k, cl (by omega), sv_ne (by omega), (rs (aD s - 1) (by omega)).2] at e3
    have tj : ∀ j, j ≠ 4 → j ≠ 8 → T3.1 o j = T10.1 o j := fun j a b => by rw [e3, sv_j b, sv_j a]
    have to : ∀ j, j ≠ o → T3.1 j = T10.1 j := fun j a => by rw [e3, sv_ne a, sv_ne a]
    refine hp T3 ?_ (by rw [cbec_no hBT (fun _ => by omega)]; exact rO.tr (by rw [e3]; exact Off.sv.tr Off.sv)) (tj 11 (by decide) (by decide)) (tj 12 (by decide) (by decide))
    rw [nxt_back c0 z0 (by omega)]
    refine ⟨by rw [e3, sv_j (by decide), sv_k]; rfl, by rw [tj 5 (by decide) (by decide)]; exact r5, by rw [tj 6 (by decide) (by decide)]; exact r6, by rw [tj 7 (by decide) (by decide)]; exact r7, by rw [e3, sv_k]; rfl, by rw [tj 15 (by decide) (by decide)]; exact r15, fun j hj => ?_, fun p hp => by rw [to (m + 1) (by omega)]; exact rb p hp, by rw [tj 11 (by decide) (by decide), tj 12 (by decide) (by decide)]; exact rc⟩
    have hj : j < aD s - 1 := hj
    rw [to w (by omega), to (w + 1) (by omega)]; exact rs j (by omega)
