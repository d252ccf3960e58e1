/-! write -/
theorem x_cases (x : Int32) (m : Nat) (hm : m < 2 ^ 31) : (x < 0 ∨ nI m < x) ∨ ∃ p, p ≤ m ∧ x = nI p := by
  by_cases h0 : x < 0
  · exact Or.inl (Or.inl h0)
  · by_cases h1 : nI m < x
    · exact Or.inl (Or.inr h1)
    · exact Or.inr (rng hm h0 (Int32.not_lt.mp h1))
theorem s_noPlace_bad {x : Int32} {T : St} {post : Int32 → St → Prop} (h : x < 0 ∨ nI 255 < x) (hp : post 1 T) : wp_X6_isNoPlace x T post := ⟨fun _ => hp, fun h0 => ⟨fun h1 => absurd h (fun z => z.elim h0 (fun w => absurd (Int32.lt_of_lt_of_le w h1) (Int32.lt_irrefl))), fun _ => hp⟩⟩
theorem s_noPlace_ok {p : Nat} {T : St} {post : Int32 → St → Prop} (h : p < 256) (hp : post 0 T) : wp_X6_isNoPlace (nI p) T post := ⟨fun z => absurd z (nI_pos (by omega)), fun _ => ⟨fun _ => hp, fun z => absurd (by rw [n_255]; exact nI_le (by omega) (by omega)) z⟩⟩
theorem s_in_bad {x lo hi : Int32} {T : St} {post : Int32 → St → Prop} (h : x < lo ∨ hi < x) (hp : post 0 T) : wp_X7_in x lo hi T post := s_in (fun a b => absurd h (fun z => z.elim (fun w => absurd (Int32.lt_of_lt_of_le w a) (Int32.lt_irrefl)) (fun w => absurd (Int32.lt_of_lt_of_le w b) (Int32.lt_irrefl)))) (fun _ => hp)
theorem s_in_ok {lo hi p : Nat} {T : St} {post : Int32 → St → Prop} (h1 : lo ≤ p) (h2 : p ≤ hi) (hh : hi < 2 ^ 31) (hp : post 1 T) : wp_X7_in (nI p) (nI lo) (nI hi) T post := s_in (fun _ _ => hp) (fun z => z.elim (fun w => absurd w (nI_nlt h1 (by omega))) (fun w => absurd w (nI_nlt h2 (by omega))))
theorem Rel.same {i : Nat} {T T' : St} (h : Rel i T T) (e1 : ∀ j, j ≠ 130 → j ≤ 145 → T'.1 j = T.1 j) (e2 : ∀ j, j ≠ 0 → T'.1 130 j = T.1 130 j) (e3 : T'.2 130 = T.2 130) : Rel (i + 1) T' T' := by
  obtain ⟨l, n, mem, bg, ns, sn, nk, fi, kp, h1, h2, h3, h4, h5, h6⟩ := h
  exact ⟨l, n, mem, bg, ns, sn, nk, fi, kp, h1.cg (fun j hj => e1 j (by omega) (by omega)) (by rw [e1 0 (by decide) (by omega)]) (by rw [e1 0 (by decide) (by omega)]) ⟨fun j a b => e1 j (by omega) (by omega), fun j hj => e2 j (by omega)⟩, h2.cg (fun j hj => e1 j (by omega) (by omega)), h3.cg (e1 143 (by decide) (by omega)) (e2 21 (by decide)), h4.cg (fun j hj => e1 j (by omega) (by omega)) (by rw [e1 0 (by decide) (by omega)]), h5.cg (e1 142 (by decide) (by omega)) (e2 19 (by decide)), h6.cg (by omega) (fun j _ => by rw [e1 0 (by decide) (by omega)]) (e1 117 (by decide) (by omega)) (fun j hj => e2 j (by omega)) (e1 145 (by decide) (by omega)) e3⟩
theorem Rel.thr {i : Nat} {T : St} {v : Int32} (h : Rel i T T) : Rel (i + 1) (sv T 130 0 v) (sv T 130 0 v) := h.same (fun j h1 _ => sv_ne h1) (fun j hj => sv_j hj) rfl
/-- the end of a call that may have changed the memory -/
theorem s_endKeeping {lm l : Nat → Bool} {n ch nk fi : Nat} {mem bg old : Nat → Nat} {kp : Nat → Nat → Nat} {C M : St} {post : Int32 → St → Prop} (h : Qc lm l n mem bg ch C M) (hch : ch < 2 ^ 31) (hLm : ∀ i, i < 32 → bt (C.1 4 3) i = lm i) (hk : KC nk fi kp C) (ho : ∀ p, p < 256 → old p < 256 ∧ C.1 (9 + (fi + nk) % 9) p = nI (old p))
    (hp : ∀ C', Core l n mem bg C' M → (ch = 0 → KC nk fi kp C') → (ch ≠ 0 → KC (nkN nk) (fiN nk fi) (kpN nk kp old) C') → (∀ i, i ≠ 0 → i ≠ 2 → i ≠ 3 → i ≠ 7 → (i < 27 ∨ 117 ≤ i) → C'.1 i = C.1 i) → (∀ j, j ≠ 12 → C'.1 0 j = C.1 0 j) → C'.2 = C.2 → post (nI (cnt (drp lm l) 10)) C') : wp_X6_endKeeping C post := by
  obtain ⟨hR, hD, hL, hB, hlo, hc⟩ := h
  -- what is the same for both ways
  have both : ∀ C1 : St, (∀ i, i ≠ 7 → C1.1 i = C.1 i) → C1.2 = C.2 → (ch = 0 → KC nk fi kp C1) → (ch ≠ 0 → KC (nkN nk) (fiN nk fi) (kpN nk kp old) C1) → wp_X6_layDroppedAside C1 (fun r3 T2 => post r3 T2) := by
    intro C1 e1 e2 k1 k2
    refine s_lay (hR.cls (by rw [e1 0 (by decide)]) (fun i hi => e1 i (by omega))) (by unfold DC at hD ⊢; rw [e1 0 (by decide)]; exact hD) (by rw [e1 4 (by decide)]; exact hLm) (by rw [e1 4 (by decide)]; exact hL) (fun C2 r1 r2 hF => ?_)
    have s0 : ∀ i, i ≠ 0 → (sv C2 0 12 (C2.1 0 12 + nI (cnt (drp lm l) 10))).1 i = C2.1 i := fun i hi => sv_ne hi
    have kk : ∀ i, i = 7 ∨ (9 ≤ i ∧ i ≤ 17) → (sv C2 0 12 (C2.1 0 12 + nI (cnt (drp lm l) 10))).1 i = C1.1 i := fun i hi => by rw [s0 i (by omega)]; exact hF.1 i (by omega) (by omega) (by omega)
    refine hp _ ⟨r1, r2, fun i hi => ?_, fun p hpp => ?_, ?_⟩ (fun z => (k1 z).cg kk) (fun z => (k2 z).cg kk) (fun i h0 h2 h3 h7 hr => ?_) (fun j hj => ?_) ?_
    · rw [s0 4 (by decide), hF.1 4 (by decide) (by decide) (by omega), e1 4 (by decide)]; exact hL i hi
    · rw [s0 5 (by decide), hF.1 5 (by decide) (by decide) (by omega), e1 5 (by decide)]; exact hB p hpp
    · rw [s0 4 (by decide), hF.1 4 (by decide) (by decide) (by omega), e1 4 (by decide)]; exact hlo
    · rw [s0 i h0, hF.1 i h2 h3 hr, e1 i h7]
    · rw [sv_j hj, hF.1 0 (by decide) (by decide) (by omega), e1 0 (by decide)]
    · rw [sv2, hF.2, e2]
  unfold wp_X6_endKeeping
  rw [hc, n_0, leN (by omega) (by omega)]
  refine ⟨fun q => both C (fun _ _ => rfl) rfl (fun _ => hk) (fun z => absurd (show ch = 0 by omega) z), fun q => ?_⟩
  exact s_keepNoted hk ho (fun C1 e1 k e2 => both C1 e1 e2 (fun z => by omega) (fun _ => k))
/-- from the relation into a call -/
theorem Core.qc {l : Nat → Bool} {n : Nat} {mem bg : Nat → Nat} {C C' M : St} (h : Core l n mem bg C M) (e : ∀ i, (i = 0 ∨ i = 2 ∨ i = 3 ∨ i = 5 ∨ (27 ≤ i ∧ i < 117)) → C'.1 i = C.1 i) (e4 : ∀ j, j ≠ 3 → j ≠ 5 → C'.1 4 j = C.1 4 j) (e5 : C'.1 4 5 = 0) : Qc l l n mem bg 0 C' M := by
  obtain ⟨a, b, c, d, f⟩ := h
  refine ⟨a.cls (by rw [e 0 (by omega)]) (fun i hi => e i (by omega)), ?_, fun i hi => by rw [e4 2 (by decide) (by decide)]; exact c i hi, fun p hp => by rw [e 5 (by omega)]; exact d p hp, by rw [e4 4 (by decide) (by decide)]; exact f, e5⟩
  unfold DC at b ⊢
  rw [e 0 (by omega)]; exact b
theorem drp_self {l : Nat → Bool} : cnt (drp l l) 10 = 0 := cnt_0 (fun i _ => by unfold drp; simp)
theorem bb_ne {N : St} {p v n j : Nat} {lk : Int32} (h : j < 130 ∨ 141 < j) : (bst (bec1 N p v lk) p n).1 j = N.1 j := by
  rw [bst_ne (by omega)]; unfold bec1; rw [sv_ne (by omega), sv_ne (by omega)]
theorem bb_130 {N : St} {p v n j : Nat} {lk : Int32} (h1 : j ≠ 13) (h2 : j ≠ 15) : (bst (bec1 N p v lk) p n).1 130 j = N.1 130 j := by rw [bst_130, upd_j h2, bec1_130, upd_j h1]
theorem bb_2 {N : St} {p v n : Nat} {lk : Int32} : (bst (bec1 N p v lk) p n).2 = N.2 := by rw [bst_2]; rfl
theorem bb_eq {M M' : St} (h : EqM M M') (p v n : Nat) (lk : Int32) : EqM (bst (bec1 M p v lk) p n) (bst (bec1 M' p v lk) p n) := bst_eq (bec1_eq h p v lk) p n
theorem Rel.fin {i : Nat} {l : Nat → Bool} {n : Nat} {mem bg : Nat → Nat} {ns : Nat} {sn : Nat → Nat → Nat} {nk fi : Nat} {kp : Nat → Nat → Nat} {C M T : St} (core : Core l n mem bg C M) (em : EqM M T) (cls : ∀ j, j < 130 → T.1 j = C.1 j) (kc : KC nk fi kp C) (km : KM nk kp T) (sc : SC ns sn C) (sm : SM ns sn T) (ct : Ct i C T) : Rel i T T :=
  ⟨l, n, mem, bg, ns, sn, nk, fi, kp, core.cg (fun j hj => cls j (by omega)) (by rw [cls 0 (by omega)]) (by rw [cls 0 (by omega)]) em, kc.cg (fun j hj => cls j (by omega)), km, sc.cg (fun j hj => cls j (by omega)) (by rw [cls 0 (by omega)]), sm, ct.cg (Nat.le_refl _) (fun j _ => by rw [cls 0 (by omega)]) (cls 117 (by omega)) (fun _ _ => rfl) rfl rfl⟩
/-- which way the look goes -/
theorem lk_ex (n g : Nat) (M : St) : ∃ lk : Int32, (lk = 1 ∧ Lk n g M) ∨ (lk = 0 ∧ ¬ Lk n g M) := by
  by_cases h : Lk n g M
  · exact ⟨1, Or.inl ⟨rfl, h⟩⟩
  · exact ⟨0, Or.inr ⟨rfl, h⟩⟩
theorem lk_un {n g : Nat} {M M' : St} (e : EqM M M') {a b : Int32} (h1 : (a = 1 ∧ Lk n g M) ∨ (a = 0 ∧ ¬ Lk n g M)) (h2 : (b = 1 ∧ Lk n g M') ∨ (b = 0 ∧ ¬ Lk n g M')) : b = a := by
  rw [Lk_eq e] at h2
  rcases h1 with ⟨rfl, x⟩ | ⟨rfl, x⟩ <;> rcases h2 with ⟨rfl, y⟩ | ⟨rfl, y⟩
  · rfl
  · exact absurd x y
  · exact absurd y x
  · rfl
theorem op_write {i : Nat} {a1 a2 : Int32} {T : St} (h : Rel i T T) : wp_X6_write a1 a2 T (fun r T1 => wp_X7_write a1 a2 T1 (fun r' T2 => r = r' ∧ Rel (i + 1) T2 T2)) := by
  unfold wp_X6_write
  rcases x_cases a1 255 (by omega) with hb | ⟨p, hp, rfl⟩
  · refine s_noPlace_bad hb ⟨fun _ => ?_, fun z => absurd z (by decide)⟩
    unfold wp_X7_write
    exact s_in_bad hb ⟨fun _ => ⟨rfl, h.thr⟩, fun z => absurd rfl z⟩
  refine s_noPlace_ok (by omega) ⟨fun z => absurd rfl z, fun _ => ?_⟩
  rcases x_cases a2 255 (by omega) with hb | ⟨v, hv, rfl⟩
  · have fin : wp_X7_write (nI p) a2 T (fun r' T2 => -2 = r' ∧ Rel (i + 1) T2 T2) := by
      unfold wp_X7_write
      refine s_in_ok (lo := 0) (hi := 255) (by omega) hp (by omega) ⟨fun z => absurd z (by decide), fun _ => ?_⟩
      exact s_in_bad hb ⟨fun z => absurd rfl z, fun _ => ⟨rfl, h.thr⟩⟩
    refine ⟨fun _ => fin, fun h0 => ⟨fun h1 => ?_, fun _ => fin⟩⟩
    exact absurd hb (fun z => z.elim h0 (fun w => absurd (Int32.lt_of_lt_of_le w h1) (Int32.lt_irrefl)))
  refine ⟨fun z => absurd z (nI_pos (by omega)), fun _ => ⟨fun _ => ?_, fun z => absurd (by rw [n_255]; exact nI_le (by omega) (by omega)) z⟩⟩
  obtain ⟨l, n, mem, bg, ns, sn, nk, fi, kp, h1, h2, h3, h4, h5, h6⟩ := h
  have hp' : p < 256 := by omega
  have hv' : v < 256 := by omega
  refine s_beginKeeping h2 h1.2.2.2.1 (fun C1 x1 x2 x3 x4 x5 x6 x7 => ?_)
  have hq0 : Qc l l n mem bg 0 C1 T := h1.qc (fun j hj => x1 j (by omega) (by omega)) x2 x4
  refine s_become (by omega) (by rw [a255 (by omega), Nat.mod_eq_of_lt hp']) hp' ?_
  have hold : ∀ q, q < 256 → mem q < 256 ∧ C1.1 (9 + (fi + nk) % 9) q = nI (mem q) := fun q hq => ⟨(h1.2.2.2.1 q hq).2, x5 q hq⟩
  have hlm : ∀ j, j < 32 → bt (C1.1 4 3) j = l j := fun j hj => by rw [x3]; exact h1.2.2.1 j hj
  have hnk := h2.1
  have hB131 := h1.1.2.1
  -- what the class leaves alone
  have hC : ∀ (C2 : St) (D : St), (∀ j, j ≠ 4 → j ≠ 5 → D.1 j = C1.1 j) → (∀ i, i ≠ 0 → i ≠ 2 → i ≠ 3 → i ≠ 7 → (i < 27 ∨ 117 ≤ i) → C2.1 i = D.1 i) → ∀ j, (19 ≤ j ∧ j ≤ 22) ∨ 117 ≤ j → C2.1 j = T.1 j := fun C2 D d c j hj => by rw [c j (by omega) (by omega) (by omega) (by omega) (by omega), d j (by omega) (by omega), x1 j (by omega) (by omega)]
  -- the model comes as far as its becomes
  have mod : ∀ (C2 : St) (P : Int32 → St → Prop), (∀ j, 117 ≤ j → C2.1 j = T.1 j) → (∀ f, (∀ q, q < 256 → f q = nI (mem q)) → EqM T (sa (sv C2 130 0 0) 144 f) → wp_X7_becomes (nI p) (nI v) (sa (sv C2 130 0 0) 144 f) (fun r10 T9 => (r10 < 0 → (r10 ≤ 0 → P 0 T9) ∧ (¬ r10 ≤ 0 → P r10 T9)) ∧ (¬ r10 < 0 → wp_X7_keep T9 (fun T13 => (r10 ≤ 0 → P 0 T13) ∧ (¬ r10 ≤ 0 → P r10 T13))))) → wp_X7_write (nI p) (nI v) C2 P := by
    intro C2 P hc hh
    unfold wp_X7_write
    refine s_in_ok (lo := 0) (hi := 255) (by omega) hp (by omega) ⟨fun z => absurd z (by decide), fun _ => ?_⟩
    refine s_in_ok (lo := 0) (hi := 255) (by omega) hv (by omega) ⟨fun _ => ?_, fun z => absurd z (by decide)⟩
    refine s_mnote (fun f hf => hh f (fun q hq => ?_) ⟨fun j a b => by rw [sa_ne (by omega), sv_ne (by omega)]; exact hc j (by omega), fun j hj => by rw [sa_ne (by decide), sv_j (by omega)]; exact congrFun (hc 130 (by omega)) j⟩)
    rw [hf q hq, sv_ne (by decide), hc 131 (by omega)]; exact (hB131 q hq).1
  by_cases hm : mem p = v
  · -- nothing changes
    rw [cbec_same ((nIb hq0.2.2.2.1 hp' hv').mpr hm)]
    refine s_endKeeping hq0 (by omega) hlm x6 hold (fun C2 c1 c2 _ c4 c5 c6 => ?_)
    have hc := hC C2 C1 (fun _ _ _ => rfl) c4
    have hC0 : ∀ j, j ≠ 12 → C2.1 0 j = T.1 0 j := fun j hj => by rw [c5 j hj, x1 0 (by decide) (by omega)]
    rw [drp_self]
    refine mod C2 _ (fun j hj => hc j (Or.inr hj)) (fun f hf em => ?_)
    have hM := h1.1.mod em
    refine s_becomes hM.1.1 hp' hM.1.2.2 (fun r hr hz q hq => hM.b01 hr ((hM.has hr).mp hz) q hq) (fun _ => ⟨fun _ => ⟨fun _ => ⟨rfl, ?_⟩, fun z => absurd (by decide) z⟩, fun z => absurd (by decide) z⟩) (fun lk hne => absurd ((nIb hM.2.1 hp' hv').mpr hm) hne)
    refine Rel.fin c1 em (fun j hj => by rw [sa_ne (by omega), sv_ne (by omega)]) (c2 rfl) (h3.cg (by rw [sa_ne (by decide), sv_ne (by decide)]; exact hc 143 (by omega)) (by rw [sa_ne (by decide), sv_j (by decide), hc 130 (by omega)])) (h4.cg (fun j hj => hc j (Or.inl hj)) (hC0 10 (by decide))) (h5.cg (by rw [sa_ne (by decide), sv_ne (by decide)]; exact hc 142 (by omega)) (by rw [sa_ne (by decide), sv_j (by decide), hc 130 (by omega)])) (h6.cg (by omega) (fun j hj => hC0 j (by omega)) (hc 117 (by omega)) (fun j hj => by rw [sa_ne (by decide), sv_j (by omega), hc 130 (by omega)]) (by rw [sa_ne (by decide), sv_ne (by decide)]; exact hc 145 (by omega)) (by rw [sa2, sv2, c6, x7]))
  · obtain ⟨lk, hlk⟩ := lk_ex n (p / 16) T
    obtain ⟨q1, q2⟩ := hq0.step hp' hv' hm hlk
    refine s_endKeeping q1 (by omega) (by rw [cbec_f3]; exact hlm) (x6.cg (fun j hj => cbec_ne (by omega) (by omega))) (by rw [cbec_ne (by omega) (by omega)]; exact hold) (fun C2 c1 _ c3 c4 c5 c6 => ?_)
    have hc := hC C2 _ (fun j a b => cbec_ne a b) c4
    have hC0 : ∀ j, j ≠ 12 → C2.1 0 j = T.1 0 j := fun j hj => by rw [c5 j hj, cbec_ne (by decide) (by decide), x1 0 (by decide) (by omega)]
    refine mod C2 _ (fun j hj => hc j (Or.inr hj)) (fun f hf em => ?_)
    have hM := h1.1.mod em
    obtain ⟨N, eN⟩ : ∃ N, N = sa (sv C2 130 0 0) 144 f := ⟨_, rfl⟩
    have nC : ∀ j, j ≠ 130 → j ≠ 144 → N.1 j = C2.1 j := fun j a b => by rw [eN, sa_ne b, sv_ne a]
    have n130 : ∀ j, j ≠ 0 → N.1 130 j = T.1 130 j := fun j hj => by rw [eN, sa_ne (by decide), sv_j hj, hc 130 (by omega)]
    have n144 : N.1 144 = f := by rw [eN, sa_eq]
    rw [← eN] at em hM ⊢
    refine s_becomes hM.1.1 hp' hM.1.2.2 (fun r hr hz q hq => hM.b01 hr ((hM.has hr).mp hz) q hq) (fun he => absurd ((nIb hM.2.1 hp' hv').mp he) hm) (fun lk' _ hlk' => ?_)
    have e := lk_un em hlk hlk'
    subst e
    have ecn : cnt (dq N p) n = cnt (drp l (lof l C1 p)) 10 := by rw [← q2]; exact cnt_congr (fun r _ => dq_eq em p r)
    have hcl : cnt (dq N p) n ≤ n := cnt_le _ _
    have hn10 := h1.1.1.1
    refine ⟨fun z => absurd z (nI_pos (by omega)), fun _ => ?_⟩
    refine s_mkeep (nk := nk) (kp := kp) (old := mem) hnk (h3.cg (by rw [bb_ne (by omega), nC 143 (by decide) (by decide)]; exact hc 143 (by omega)) (by rw [bb_130 (by decide) (by decide), n130 21 (by decide)])) (fun q hq => by rw [bb_ne (by omega), n144]; exact hf q hq) (fun M3 m1 m2 m3 m4 => ?_)
    have fin : Rel (i + 1) M3 M3 := by
      refine Rel.fin c1 ((bb_eq em p v n lk').tr ⟨fun j a b => m1 j (by omega) (by omega), fun j hj => m2 j (by omega)⟩) (fun j hj => by rw [m1 j (by omega) (by omega), bb_ne (by omega), nC j (by omega) (by omega)]) (c3 (by omega)) m3 (h4.cg (fun j hj => hc j (Or.inl hj)) (hC0 10 (by decide))) (h5.cg (by rw [m1 142 (by decide) (by decide), bb_ne (by omega), nC 142 (by decide) (by decide)]; exact hc 142 (by omega)) (by rw [m2 19 (by decide), bb_130 (by decide) (by decide), n130 19 (by decide)])) (h6.cg (by omega) (fun j hj => hC0 j (by omega)) (hc 117 (by omega)) (fun j hj => by rw [m2 j (by omega), bb_130 (by omega) (by omega), n130 j (by omega)]) (by rw [m1 145 (by decide) (by decide), bb_ne (by omega), nC 145 (by decide) (by decide)]; exact hc 145 (by omega)) (by rw [m4, bb_2, eN, sa2, sv2, c6, cbec_2, x7]))
    rw [ecn] at hcl ⊢
    refine ⟨fun z => ⟨?_, fin⟩, fun z => ⟨rfl, fin⟩⟩
    rw [n_0, leN (by omega) (by omega)] at z
    rw [show cnt (drp l (lof l C1 p)) 10 = 0 by omega]
    rfl
