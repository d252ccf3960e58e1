/-! the model's find -/
def tri (T : St) (hd gn cv : Nat → Int32) : St := sa (sa (sa T 146 hd) 147 gn) 148 cv
theorem tri_146 {T : St} {hd gn cv : Nat → Int32} : (tri T hd gn cv).1 146 = hd := by unfold tri; rw [sa_ne (by decide), sa_ne (by decide), sa_eq]
theorem tri_147 {T : St} {hd gn cv : Nat → Int32} : (tri T hd gn cv).1 147 = gn := by unfold tri; rw [sa_ne (by decide), sa_eq]
theorem tri_148 {T : St} {hd gn cv : Nat → Int32} : (tri T hd gn cv).1 148 = cv := by unfold tri; rw [sa_eq]
theorem tri_ne {T : St} {hd gn cv : Nat → Int32} {o : Nat} (h : o < 146 ∨ 148 < o) : (tri T hd gn cv).1 o = T.1 o := by unfold tri; rw [sa_ne (by omega), sa_ne (by omega), sa_ne (by omega)]
theorem tri_2 {T : St} {hd gn cv : Nat → Int32} : (tri T hd gn cv).2 = T.2 := rfl
theorem tri_s146 {T : St} {hd gn cv : Nat → Int32} {k : Nat} {v : Int32} : sv (tri T hd gn cv) 146 k v = tri T (upd hd k v) gn cv := by
  unfold sv; rw [tri_146]; unfold tri
  rw [sa_comm (a := 148) (b := 146) (by decide), sa_comm (a := 147) (b := 146) (by decide), sa_sa]
theorem tri_s147 {T : St} {hd gn cv : Nat → Int32} {k : Nat} {v : Int32} : sv (tri T hd gn cv) 147 k v = tri T hd (upd gn k v) cv := by
  unfold sv; rw [tri_147]; unfold tri
  rw [sa_comm (a := 148) (b := 147) (by decide), sa_sa]
theorem tri_s148 {T : St} {hd gn cv : Nat → Int32} {k : Nat} {v : Int32} : sv (tri T hd gn cv) 148 k v = tri T hd gn (upd cv k v) := by
  unfold sv; rw [tri_148]; unfold tri
  rw [sa_sa]
theorem tri_self {T : St} : tri T (T.1 146) (T.1 147) (T.1 148) = T := by unfold tri; rw [sa_self, sa_self, sa_self]
def b1 (f : Nat → Int32) (p : Nat) : Bool := decide (f p = 1)
def cvv (mem : Nat → Nat) (gn : Nat → Int32) (p : Nat) : Nat := (if gn p = 1 then 1 else 0) + (if gn ((p + 255) % 256) = 1 ∧ hop (mem ((p + 255) % 256)) = true then 1 else 0)
/-- what holds while the heads are sought -/
def FI (mem : Nat → Nat) (s : Nat) (hd gn cv : Nat → Int32) : Prop :=
  (∀ p, p < 256 → B01 (hd p) ∧ B01 (gn p) ∧ (hd p = 1 → Rch mem s p) ∧ (gn p = 1 → hd p = 1 ∧ mem p ≤ 12 ∧ ∀ y, Su mem p y → hd y = 1) ∧ cv p = nI (cvv mem gn p)) ∧ hd s = 1
theorem cnt_up {f : Nat → Int32} {k : Nat} (h : f k ≠ 1) (hk : k < 256) : cnt (b1 (upd f k 1)) 256 = cnt (b1 f) 256 + 1 := by
  have e := cnt_congr (n := 256) (f := fun x => if x = k then false else b1 (upd f k 1) x) (g := b1 f) (fun i _ => by
    by_cases e : i = k
    · subst e; simp [b1, h]
    · simp [b1, upd, e])
  rw [cnt_off (f := b1 (upd f k 1)) (a := k) (by simp [b1, upd]) hk, e]
theorem s_behind {p : Nat} {mem : Nat → Nat} {T : St} {post : Int32 → St → Prop} (hB : By 131 mem T) (hp : p < 256) (h : post (nI (nx mem p)) T) : wp_X7_behind (nI p) T post := by
  unfold wp_X7_behind
  refine ⟨vin hp (by omega), ?_⟩
  rw [cl (by omega), (hB p hp).1]
  refine s_isLong (hB p hp).2 (fun hh => ⟨fun z => absurd z (by decide), fun _ => ?_⟩) (fun hh => ⟨fun _ => ?_, fun z => absurd rfl z⟩)
  · rw [n_2, nI_m255 (by omega)]
    unfold nx ln at h; rw [if_pos hh] at h; exact h
  · rw [n_1, nI_m255 (by omega)]
    unfold nx ln at h; rw [if_neg (by rw [hh]; decide)] at h; exact h
theorem s_other {p : Nat} {mem : Nat → Nat} {T : St} {post : Int32 → St → Prop} (hB : By 131 mem T) (hp : p < 256) (h : post (nI (ot mem p)) T) : wp_X7_other (nI p) T post := by
  have hl : (p + 1) % 256 < 256 := Nat.mod_lt _ (by omega)
  unfold wp_X7_other
  rw [show (nI p + 1) &&& 255 = nI ((p + 1) % 256) by rw [n_1]; exact nI_m255 (by omega)]
  refine ⟨vin hl (by omega), ?_⟩
  rw [cl (by omega), (hB _ hl).1]
  have := (oi_ok p (mem ((p + 1) % 256))).2
  unfold oi at this
  rw [this]
  exact h
/-- one head's act is looked at -/
theorem FI.step {mem : Nat → Nat} {s p : Nat} {hd gn cv hd' : Nat → Int32} (hs : s < 256) (hp : p < 256) (h : FI mem s hd gn cv) (hh : hd p = 1) (hg : gn p = 0) (hk : mem p ≤ 12) (hd1 : ∀ y, y < 256 → hd y = 1 → hd' y = 1) (hd2 : ∀ y, y < 256 → hd' y = 1 → hd y = 1 ∨ Su mem p y) (hd3 : ∀ y, Su mem p y → hd' y = 1) (hd4 : ∀ y, y < 256 → B01 (hd' y)) : FI mem s hd' (upd gn p 1) (upd (upd cv p (cv p + 1)) ((p + 1) % 256) (cv ((p + 1) % 256) + (if hop (mem p) then 1 else 0))) := by
  refine ⟨fun y hy => ?_, ?_⟩
  · obtain ⟨a1, a2, a3, a4, a5⟩ := h.1 y hy
    obtain ⟨b1', b2, b3, b4, b5⟩ := h.1 p hp
    refine ⟨hd4 y hy, ?_, fun e => ?_, fun e => ?_, ?_⟩
    · by_cases e : y = p
      · subst e; rw [upd_k]; exact Or.inr rfl
      · rw [upd_j e]; exact a2
    · rcases hd2 y hy e with z | z
      · exact a3 z
      · exact (b3 hh).st z
    · by_cases e' : y = p
      · subst e'; exact ⟨hd1 y hy hh, hk, hd3⟩
      · rw [upd_j e'] at e
        obtain ⟨c1, c2, c3⟩ := a4 e
        exact ⟨hd1 y hy c1, c2, fun z hz => hd1 z hz.lt (c3 z hz)⟩
    · have hne : p ≠ (p + 1) % 256 := by omega
      have hg1 : ¬ gn p = 1 := by rw [hg]; decide
      by_cases e1 : y = (p + 1) % 256
      · rw [e1, upd_k]
        have := (h.1 ((p + 1) % 256) (Nat.mod_lt _ (by omega))).2.2.2.2
        rw [this]
        unfold cvv
        rw [show ((p + 1) % 256 + 255) % 256 = p by omega, upd_k, upd_j (Ne.symm hne)]
        rw [if_neg (c := gn p = 1 ∧ hop (mem p) = true) (fun z => hg1 z.1)]
        by_cases hhp : hop (mem p) = true
        · have e9 : (if (1 : Int32) = 1 ∧ hop (mem p) = true then 1 else 0) = 1 := if_pos ⟨rfl, hhp⟩
          rw [if_pos hhp, e9]
          exact nI_add _ _
        · have e9 : (if (1 : Int32) = 1 ∧ hop (mem p) = true then 1 else 0) = 0 := if_neg (fun z => hhp z.2)
          rw [if_neg hhp, e9]
          exact nI_add _ _
      · rw [upd_j e1]
        by_cases e2 : y = p
        · rw [e2, upd_k, b5]
          unfold cvv
          rw [upd_k, upd_j (show (p + 255) % 256 ≠ p by omega), if_neg hg1, if_pos rfl, nI_1]
          congr 1
          omega
        · rw [upd_j e2, a5]
          unfold cvv
          rw [upd_j e2, upd_j (show (y + 255) % 256 ≠ p by omega)]
  · exact hd1 s hs h.2
theorem fi_all {mem : Nat → Nat} {s : Nat} {hd gn cv : Nat → Int32} (hs : s < 256) (h : FI mem s hd gn cv) (ha : ∀ p, p < 256 → hd p = 1 → gn p = 1) : ∀ p, p < 256 → (hd p = 1 ↔ Rch mem s p) := fun p hp => ⟨(h.1 p hp).2.2.1, fun hr => by
  have := hr (fun p => p < 256 ∧ hd p = 1) ⟨hs, h.2⟩ (fun x y hx hy => ⟨hy.lt, ((h.1 x hx.1).2.2.2.1 (ha x hx.1 hx.2)).2.2 y hy⟩)
  exact this.2⟩
/-- the count at the end -/
theorem s_find_end {mem : Nat → Nat} {s : Nat} {hd gn cv : Nat → Int32} {T : St} {post : Int32 → St → Prop} (hs : s < 256) (h : FI mem s hd gn cv) (ha : ∀ p, p < 256 → hd p = 1 → gn p = 1)
    (h1 : Mk mem s → post 1 (tri T hd gn cv)) (h0 : ¬ Mk mem s → post 0 (tri T hd gn cv)) : LW (fun kl (vl : Int32 × Int32 × Int32) Tl => wb_X7_find_207 kl vl.1 vl.2.1 vl.2.2 Tl post) (0, 1, 0) (tri T hd gn cv) := by
  have hall := fi_all hs h ha
  have hgn : ∀ p, p < 256 → (gn p = 1 ↔ Rch mem s p) := fun p hp => ⟨fun e => (hall p hp).mp ((h.1 p hp).2.2.2.1 e).1, fun e => ha p hp ((hall p hp).mpr e)⟩
  have hk : ∀ p, Rch mem s p → mem p ≤ 12 := fun p hr => ((h.1 p (hr.lt hs)).2.2.2.1 ((hgn p (hr.lt hs)).mpr hr)).2.1
  refine LW_gen 256 (fun u v T' => T' = tri T hd gn cv ∧ v.2.2 = nI u ∧ v.1 = nI (cnt (b1 hd) u) ∧ B01 v.2.1 ∧ (v.2.1 = 1 ↔ ∀ p, p < u → cvv mem gn p < 2)) ⟨rfl, rfl, rfl, Or.inr rfl, fun _ p hp => by omega, fun _ => rfl⟩ ?_
  rintro u ⟨x, y, z⟩ T' hu ⟨rfl, ez, ex, hy, hsg⟩ k hkk
  have ez : z = nI u := ez
  have ex : x = nI (cnt (b1 hd) u) := ex
  subst ez; subst ex
  have hy : B01 y := hy
  have hsg : y = 1 ↔ ∀ p, p < u → cvv mem gn p < 2 := hsg
  have hcu : cnt (b1 hd) u ≤ u := cnt_le _ _
  unfold wb_X7_find_207
  show (256 ≤ nI u → _) ∧ _
  rw [n_256, leN (by omega) (by omega)]
  refine ⟨fun q => ?_, fun q => ⟨vin (by omega) (by omega), ?_⟩⟩
  · have : u = 256 := by omega
    subst this
    have e1 : cnt (b1 hd) 256 = cnt (rb mem s) 256 := cnt_congr (fun i hi => by
      have := hall i hi
      unfold b1
      by_cases e : hd i = 1
      · rw [decide_eq_true e, rb_iff.mpr (this.mp e)]
      · rw [decide_eq_false e]
        cases e' : rb mem s i with
        | false => rfl
        | true => exact absurd (this.mpr (rb_iff.mp e')) e)
    have hmk : Mk mem s ↔ cnt (b1 hd) 256 ≤ 24 ∧ y = 1 := by
      rw [hsg, e1]
      refine ⟨fun hm => ⟨hm.2.1, fun p hp => ?_⟩, fun ⟨c1, c2⟩ => ⟨hk, c1, fun p hr hh hr2 => ?_⟩⟩
      · unfold cvv
        by_cases g1 : gn p = 1
        · have hl : (p + 255) % 256 < 256 := Nat.mod_lt _ (by omega)
          by_cases g2 : gn ((p + 255) % 256) = 1 ∧ hop (mem ((p + 255) % 256)) = true
          · exact absurd (show Rch mem s (((p + 255) % 256 + 1) % 256) by rw [show ((p + 255) % 256 + 1) % 256 = p by omega]; exact (hgn p hp).mp g1) (hm.2.2 _ ((hgn _ hl).mp g2.1) g2.2)
          · rw [if_pos g1, if_neg g2]; omega
        · rw [if_neg g1]; split <;> omega
      · have hp := hr.lt hs
        have hp2 := hr2.lt hs
        have := c2 _ hp2
        unfold cvv at this
        rw [show ((p + 1) % 256 + 255) % 256 = p by omega, if_pos ((hgn _ hp2).mpr hr2), if_pos ⟨(hgn _ hp).mpr hr, hh⟩] at this
        omega
    rw [n_24]
    show (nI 24 < nI (cnt (b1 hd) 256) → _) ∧ _
    rw [ltN (by omega) (by omega)]
    refine ⟨fun c => h0 (fun hm => absurd (hmk.mp hm).1 (by omega)), fun c => ⟨fun e => h0 (fun hm => ?_), fun e => h1 (hmk.mpr ⟨by omega, hy.ne.mp e⟩)⟩⟩
    have e : y = 0 := e
    have := (hmk.mp hm).2
    rw [e] at this
    exact absurd this (by decide)
  · rw [cl (by omega), tri_146]
    have hcv := (h.1 u (by omega)).2.2.2.2
    have nxt : ∀ (b : Int32) (c : Bool), b = nI (if c then 1 else 0) → c = b1 hd u → wj_X7_find_231 k y (nI u) b (nI (cnt (b1 hd) u)) (tri T hd gn cv) post := by
      intro b c eb ec
      have e1 : nI (cnt (b1 hd) u) + b = nI (cnt (b1 hd) (u + 1)) := by rw [eb, nI_add, ec]; rfl
      have hlt2 : cvv mem gn u < 2 ^ 31 := by unfold cvv; split <;> split <;> omega
      unfold wj_X7_find_231
      rw [e1]
      refine ⟨fun e => hkk _ _ (by omega) ⟨rfl, nI_1 u, rfl, Or.inl rfl, ?_⟩, fun e => ⟨vin (by omega) (by omega), ?_⟩⟩
      · refine ⟨fun z => absurd z (show ¬ (0 : Int32) = 1 by decide), fun z => ?_⟩
        have := hsg.mpr (fun p hp => z p (by omega))
        rw [e] at this
        exact absurd this (by decide)
      · have hp : ∀ p, p < u → cvv mem gn p < 2 := hsg.mp (hy.ne.mp e)
        rw [cl (by omega), tri_148, hcv, n_2, leN (by omega) (by omega)]
        refine ⟨fun e2 => hkk _ _ (by omega) ⟨rfl, nI_1 u, rfl, Or.inl rfl, fun z => absurd z (show ¬ (0 : Int32) = 1 by decide), fun z => absurd (z u (by omega)) (by omega)⟩, fun e2 => hkk _ _ (by omega) ⟨rfl, nI_1 u, rfl, Or.inr rfl, fun _ p hp' => ?_, fun _ => rfl⟩⟩
        by_cases e3 : p = u
        · subst e3; omega
        · exact hp p (by omega)
    refine ⟨fun e => nxt 0 false rfl ?_, fun e => nxt 1 true rfl ?_⟩
    · unfold b1; rw [e]; rfl
    · unfold b1; rw [((h.1 u (by omega)).1.ne).mp e]; rfl
theorem s_find {mem : Nat → Nat} {s : Nat} {T : St} {post : Int32 → St → Prop} (hs : s < 256) (hB : By 131 mem T)
    (h1 : ∀ hd gn cv, Mk mem s → (∀ p, p < 256 → B01 (hd p) ∧ (hd p = 1 ↔ Rch mem s p) ∧ cv p = nI (cvv mem gn p) ∧ (gn p = 1 ↔ Rch mem s p)) → post 1 (tri T hd gn cv)) (h0 : ∀ hd gn cv, ¬ Mk mem s → post 0 (tri T hd gn cv)) : wp_X7_find (nI s) T post := by
  unfold wp_X7_find
  refine LW_cnt 256 (fun i T' => ∃ hd gn cv, T' = tri T hd gn cv ∧ ∀ p, p < i → hd p = 0 ∧ gn p = 0 ∧ cv p = 0) ⟨_, _, _, tri_self.symm, fun p hp => by omega⟩ ?_
  rintro i T' hi ⟨hd, gn, cv, rfl, hz⟩ k hk
  unfold wb_X7_find_2
  rw [n_256, leN (by omega) (by omega)]
  refine ⟨fun q => ⟨vin hs (by omega), ?_⟩, fun q => ⟨vin (by omega) (by omega), vin (by omega) (by omega), vin (by omega) (by omega), ?_⟩⟩
  · have : i = 256 := by omega
    subst this
    rw [cl (by omega), narZ1, tri_s146]
    -- while (more)
    refine LW_gen 257 (fun t v T' => ∃ hd gn cv, T' = tri T hd gn cv ∧ FI mem s hd gn cv ∧ ((v = 1 ∧ t ≤ cnt (b1 gn) 256) ∨ (v = 0 ∧ ∀ p, p < 256 → hd p = 1 → gn p = 1))) ⟨_, _, _, rfl, ⟨fun p hp => ?_, upd_k⟩, Or.inl ⟨rfl, Nat.zero_le _⟩⟩ ?_
    · obtain ⟨z1, z2, z3⟩ := hz p hp
      refine ⟨?_, by rw [z2]; exact Or.inl rfl, fun e => ?_, fun e => by rw [z2] at e; exact absurd e (by decide), ?_⟩
      · by_cases e : p = s
        · subst e; rw [upd_k]; exact Or.inr rfl
        · rw [upd_j e, z1]; exact Or.inl rfl
      · by_cases e' : p = s
        · subst e'; exact Rch.rf
        · rw [upd_j e', z1] at e; exact absurd e (by decide)
      · rw [z3]
        unfold cvv
        rw [if_neg (by rw [z2]; decide), if_neg (fun z => by rw [(hz _ (Nat.mod_lt _ (by omega))).2.1] at z; exact absurd z.1 (by decide))]
        rfl
    · rintro t v T13 ht ⟨hd, gn, cv, rfl, hF, hv⟩ k14 hk14
      have hc256 : cnt (b1 gn) 256 ≤ 256 := cnt_le _ _
      unfold wb_X7_find_45
      rcases hv with ⟨rfl, htc⟩ | ⟨rfl, hall⟩
      · refine ⟨fun e => absurd e (by decide), fun _ => ?_⟩
        -- one pass
        refine LW_acc 256 (fun u x T' => ∃ hd gn cv, T' = tri T hd gn cv ∧ FI mem s hd gn cv ∧ ((x = 0 ∧ t ≤ cnt (b1 gn) 256 ∧ ∀ p, p < u → hd p = 1 → gn p = 1) ∨ (x = 1 ∧ t + 1 ≤ cnt (b1 gn) 256))) ⟨_, _, _, rfl, hF, Or.inl ⟨rfl, htc, fun p hp => by omega⟩⟩ ?_
        rintro u x T49 hu ⟨hd, gn, cv, rfl, hF, hx⟩ k50 hk50
        have hc2 : cnt (b1 gn) 256 ≤ 256 := cnt_le _ _
        unfold wb_X7_find_53
        rw [n_256]
        show (nI 256 ≤ nI u → _) ∧ _
        rw [leN (by omega) (by omega)]
        refine ⟨fun q => ?_, fun q => ⟨vin (by omega) (by omega), ?_⟩⟩
        · have : u = 256 := by omega
          subst this
          refine hk14 _ _ ?_ ⟨_, _, _, rfl, hF, ?_⟩
          · rcases hx with ⟨-, h2, -⟩ | ⟨-, h2⟩ <;> omega
          · rcases hx with ⟨h1, h2, h3⟩ | ⟨h1, h2⟩
            · exact Or.inr ⟨h1, h3⟩
            · exact Or.inl ⟨h1, h2⟩
        · obtain ⟨d1, d2, d3, d4, d5⟩ := hF.1 u (by omega)
          have hu256 : u < 256 := by omega
          show ((tri T hd gn cv).1 146 (nI u).toNatClampNeg = 0 → _) ∧ _
          rw [cl (by omega), tri_146, tri_147]
          refine ⟨fun e => hk50 _ _ hu256 ⟨_, _, _, rfl, hF, ?_⟩, fun e => ⟨vin hu256 (by omega), fun e2 => hk50 _ _ hu256 ⟨_, _, _, rfl, hF, ?_⟩, fun e2 => ⟨vin hu256 (by omega), vin hu256 (by omega), ?_⟩⟩⟩
          · rcases hx with ⟨x1, x2, x3⟩ | hx
            · refine Or.inl ⟨x1, x2, fun p hp e3 => ?_⟩
              by_cases e4 : p = u
              · subst e4; rw [e] at e3; exact absurd e3 (by decide)
              · exact x3 p (by omega) e3
            · exact Or.inr hx
          · rcases hx with ⟨x1, x2, x3⟩ | hx
            · refine Or.inl ⟨x1, x2, fun p hp e3 => ?_⟩
              by_cases e4 : p = u
              · subst e4; exact d2.ne.mp e2
              · exact x3 p (by omega) e3
            · exact Or.inr hx
          · have hhd : hd u = 1 := d1.ne.mp e
            have hcnt : cnt (b1 (upd gn u 1)) 256 = cnt (b1 gn) 256 + 1 := cnt_up (by rw [e2]; decide) hu256
            have hcn : t + 1 ≤ cnt (b1 (upd gn u 1)) 256 := by rcases hx with ⟨-, h2, -⟩ | ⟨-, h2⟩ <;> omega
            obtain ⟨hb1, hb2⟩ := hB u hu256
            have hl1 : (u + 1) % 256 < 256 := Nat.mod_lt _ (by omega)
            have hne : (u + 1) % 256 ≠ u := by omega
            rw [narZ1, tri_s147, tri_ne (by omega), hb1, tri_148, tri_s148, n_12, leN (by omega) (by omega)]
            refine ⟨fun hk12 => ⟨vin hu256 (by omega), vin hu256 (by omega), ?_⟩, fun hk12 => h0 _ _ _ (fun hm => hk12 (hm.1 u (d3 hhd)))⟩
            rintro T67 rfl
            rw [show (nI u + 1) &&& 255 = nI ((u + 1) % 256) by rw [n_1]; exact nI_m255 (by omega)]
            refine ⟨vin hl1 (by omega), ?_⟩
            rw [cl (i := (u + 1) % 256) (by omega), tri_148, upd_j hne]
            -- the heads behind it
            have last : ∀ hd', (∀ y, y < 256 → hd y = 1 → hd' y = 1) → (∀ y, y < 256 → hd' y = 1 → hd y = 1 ∨ Su mem u y) → (mem u ≠ 0 → mem u ≠ 6 → hd' (nx mem u) = 1) → (∀ y, y < 256 → B01 (hd' y)) → wj_X7_find_165 k50 1 (nI u) (nI (mem u)) (tri T hd' (upd gn u 1) (upd (upd cv u (cv u + 1)) ((u + 1) % 256) (cv ((u + 1) % 256) + (if hop (mem u) then 1 else 0)))) post := by
              intro hd' g1 g2 g3 g4
              unfold wj_X7_find_165
              have fin : ∀ hd2, (∀ y, y < 256 → hd y = 1 → hd2 y = 1) → (∀ y, y < 256 → hd2 y = 1 → hd y = 1 ∨ Su mem u y) → (∀ y, Su mem u y → hd2 y = 1) → (∀ y, y < 256 → B01 (hd2 y)) → k50 (1, nI u + 1) (tri T hd2 (upd gn u 1) (upd (upd cv u (cv u + 1)) ((u + 1) % 256) (cv ((u + 1) % 256) + (if hop (mem u) then 1 else 0)))) := fun hd2 f1 f2 f3 f4 => hk50 _ _ hu256 ⟨_, _, _, rfl, hF.step hs hu256 hhd e2 hk12 f1 f2 f3 f4, Or.inr ⟨rfl, hcn⟩⟩
              have nocge : cge (mem u) = false → k50 (1, nI u + 1) (tri T hd' (upd gn u 1) (upd (upd cv u (cv u + 1)) ((u + 1) % 256) (cv ((u + 1) % 256) + (if hop (mem u) then 1 else 0)))) := fun hc => fin hd' g1 g2 (fun y hy => by
                rcases hy.2 with ⟨n0, n6, rfl⟩ | ⟨hg, -⟩
                · exact g3 n0 n6
                · rw [hc] at hg; cases hg) g4
              have ec : cge (mem u) = false ↔ ¬ (mem u = 6 ∨ mem u = 7 ∨ mem u = 8) := by rw [← cge_iff]; simp
              rw [show (6 : Int32) = nI 6 from rfl, n_8, ltN (by omega) (by omega), ltN (by omega) (by omega)]
              refine ⟨fun c => nocge (ec.mpr (by omega)), fun c => ⟨fun c2 => nocge (ec.mpr (by omega)), fun c2 => ?_⟩⟩
              have hg : cge (mem u) = true := cge_iff.mpr (by omega)
              have hB2 : By 131 mem (tri T hd' (upd gn u 1) (upd (upd cv u (cv u + 1)) ((u + 1) % 256) (cv ((u + 1) % 256) + (if hop (mem u) then 1 else 0)))) := fun p hp => by rw [tri_ne (by omega)]; exact hB p hp
              refine s_other hB2 hu256 ⟨vin (ot_lt mem u) (by omega), ?_⟩
              rw [cl (by have := ot_lt mem u; omega), narZ1, tri_s146]
              refine fin _ (fun y hy e => ?_) (fun y hy e => ?_) (fun y hy => ?_) (fun y hy => ?_)
              · by_cases e' : y = ot mem u
                · subst e'; exact upd_k
                · rw [upd_j e']; exact g1 y hy e
              · by_cases e' : y = ot mem u
                · exact Or.inr ⟨hk12, Or.inr ⟨hg, e'⟩⟩
                · rw [upd_j e'] at e; exact g2 y hy e
              · rcases hy.2 with ⟨n0, n6, rfl⟩ | ⟨-, rfl⟩
                · by_cases e' : nx mem u = ot mem u
                  · rw [e']; exact upd_k
                  · rw [upd_j e']; exact g3 n0 n6
                · exact upd_k
              · by_cases e' : y = ot mem u
                · subst e'; rw [upd_k]; exact Or.inr rfl
                · rw [upd_j e']; exact g4 y hy
            have mid : ∀ (x : Int32), x = (if hop (mem u) then 1 else 0) → wj_X7_find_140 k50 1 (nI u) (nI (mem u)) x (cv ((u + 1) % 256)) (nI ((u + 1) % 256)) (tri T hd (upd gn u 1) (upd cv u (cv u + 1))) post := by
              intro x ex
              unfold wj_X7_find_140
              refine ⟨vin hl1 (by omega), ?_⟩
              rw [cl (i := (u + 1) % 256) (by omega), tri_s148, ex, n_0, show (6 : Int32) = nI 6 from rfl, nIe (by omega) (by omega), nIe (by omega) (by omega)]
              refine ⟨fun e0 => last hd (fun _ _ h => h) (fun _ _ h => Or.inl h) (fun z => absurd e0 z) (fun y hy => (hF.1 y hy).1), fun e0 => ⟨fun e6 => last hd (fun _ _ h => h) (fun _ _ h => Or.inl h) (fun _ z => absurd e6 z) (fun y hy => (hF.1 y hy).1), fun e6 => ?_⟩⟩
              have hB2 : By 131 mem (tri T hd (upd gn u 1) (upd (upd cv u (cv u + 1)) ((u + 1) % 256) (cv ((u + 1) % 256) + (if hop (mem u) then 1 else 0)))) := fun p hp => by rw [tri_ne (by omega)]; exact hB p hp
              refine s_behind hB2 hu256 ⟨vin (nx_lt mem u) (by omega), ?_⟩
              rw [cl (by have := nx_lt mem u; omega), narZ1, tri_s146]
              refine last _ (fun y hy e => ?_) (fun y hy e => ?_) (fun _ _ => upd_k) (fun y hy => ?_)
              · by_cases e' : y = nx mem u
                · subst e'; exact upd_k
                · rw [upd_j e']; exact e
              · by_cases e' : y = nx mem u
                · exact Or.inr ⟨hk12, Or.inl ⟨e0, e6, e'⟩⟩
                · rw [upd_j e'] at e; exact Or.inl e
              · by_cases e' : y = nx mem u
                · subst e'; rw [upd_k]; exact Or.inr rfl
                · rw [upd_j e']; exact (hF.1 y hy).1
            refine s_isLong hb2 (fun hh => ⟨fun z => absurd z (by decide), fun _ => mid 1 (by rw [hh]; rfl)⟩) (fun hh => ⟨fun _ => mid 0 (by rw [hh]; rfl), fun z => absurd rfl z⟩)
      · refine ⟨fun _ => ?_, fun e => absurd rfl e⟩
        have ha2 := fi_all hs hF hall
        refine s_find_end hs hF hall (fun hm => h1 _ _ _ hm (fun p hp => ⟨(hF.1 p hp).1, ha2 p hp, (hF.1 p hp).2.2.2.2, fun e => (ha2 p hp).mp ((hF.1 p hp).2.2.2.1 e).1, fun e => hall p hp ((ha2 p hp).mpr e)⟩)) (fun hm => h0 _ _ _ hm)
  · rintro T99 rfl
    rw [cl (by omega), narZ0, tri_s146, tri_s147, tri_s148]
    refine hk _ (by omega) ⟨_, _, _, rfl, fun p hp => ?_⟩
    by_cases e : p = i
    · subst e; exact ⟨upd_k, upd_k, upd_k⟩
    · rw [upd_j e, upd_j e, upd_j e]; exact hz p (by omega)
