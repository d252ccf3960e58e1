/-! the model's make -/
theorem cp3_cg {a n : Nat} {old new new' : Nat → Int32} (h : ∀ k, a ≤ k → k < n → new k = new' k) : cp3 a n old new = cp3 a n old new' := by
  funext k
  unfold cp3
  by_cases q : a ≤ k ∧ k < n
  · rw [if_pos q, if_pos q]; exact h k q.1 q.2
  · rw [if_neg q, if_neg q]
theorem cvv_cvb {mem : Nat → Nat} {gn : Nat → Int32} {s p : Nat} (hg : ∀ p, p < 256 → (gn p = 1 ↔ Rch mem s p)) (hp : p < 256) : cvb mem s p = true ↔ cvv mem gn p ≠ 0 := by
  have hq : (p + 255) % 256 < 256 := Nat.mod_lt _ (by omega)
  unfold cvb cvv
  rw [Bool.or_eq_true, Bool.and_eq_true, rb_iff, rb_iff, ← hg p hp, ← hg _ hq]
  by_cases e1 : gn p = 1
  · simp [e1]
  · rw [if_neg e1]
    by_cases e2 : gn ((p + 255) % 256) = 1 ∧ hop (mem ((p + 255) % 256)) = true
    · rw [if_pos e2]; simp [e2]
    · rw [if_neg e2]
      exact ⟨fun z => z.elim (fun w => absurd w e1) (fun w => absurd w e2), fun z => absurd rfl z⟩
/-- three of the model's rows as far as a place -/
def t3 (T : St) (f g h : Nat → Int32) : St := sa (sa (sa T 134 f) 135 g) 136 h
theorem t3_134 {T : St} {f g h : Nat → Int32} : (t3 T f g h).1 134 = f := by unfold t3; rw [sa_ne (by decide), sa_ne (by decide), sa_eq]
theorem t3_135 {T : St} {f g h : Nat → Int32} : (t3 T f g h).1 135 = g := by unfold t3; rw [sa_ne (by decide), sa_eq]
theorem t3_136 {T : St} {f g h : Nat → Int32} : (t3 T f g h).1 136 = h := by unfold t3; rw [sa_eq]
theorem t3_ne {T : St} {f g h : Nat → Int32} {a : Nat} (h1 : a ≠ 134) (h2 : a ≠ 135) (h3 : a ≠ 136) : (t3 T f g h).1 a = T.1 a := by unfold t3; rw [sa_ne h3, sa_ne h2, sa_ne h1]
theorem t3_2 {T : St} {f g h : Nat → Int32} : (t3 T f g h).2 = T.2 := rfl
theorem t3_self {T : St} : t3 T (T.1 134) (T.1 135) (T.1 136) = T := by unfold t3; rw [sa_self, sa_self, sa_self]
theorem t3_s134 {T : St} {f g h : Nat → Int32} {k : Nat} {v : Int32} : sv (t3 T f g h) 134 k v = t3 T (upd f k v) g h := by
  unfold sv; rw [t3_134]; unfold t3
  rw [sa_comm (a := 136) (b := 134) (by decide), sa_comm (a := 135) (b := 134) (by decide), sa_sa]
theorem t3_s135 {T : St} {f g h : Nat → Int32} {k : Nat} {v : Int32} : sv (t3 T f g h) 135 k v = t3 T f (upd g k v) h := by
  unfold sv; rw [t3_135]; unfold t3
  rw [sa_comm (a := 136) (b := 135) (by decide), sa_sa]
theorem t3_s136 {T : St} {f g h : Nat → Int32} {k : Nat} {v : Int32} : sv (t3 T f g h) 136 k v = t3 T f g (upd h k v) := by
  unfold sv; rw [t3_136]; unfold t3
  rw [sa_sa]
theorem mkR_t3 {mem : Nat → Nat} {s r : Nat} {M : St} : mkR mem s r M = t3 M (cp3 (256 * r) (256 * r + 256) (M.1 134) (fun k => if rb mem s (k - 256 * r) then 1 else 0)) (cp3 (256 * r) (256 * r + 256) (M.1 135) (fun k => if cvb mem s (k - 256 * r) then 1 else 0)) (cp3 (256 * r) (256 * r + 256) (M.1 136) (fun k => M.1 131 (k - 256 * r))) := rfl
/-- three rows and the mark, over two stores that are alike -/
theorem t3_eq {N T : St} (e : EqM N T) {f g h f' g' h' : Nat → Int32} (e1 : f' = f) (e2 : g' = g) (e3 : h' = h) (r : Nat) (v : Int32) : EqM (sv (t3 N f g h) 133 r v) (sv (t3 T f' g' h') 133 r v) := by
  subst e1; subst e2; subst e3
  refine ⟨fun i a b => ?_, fun j hj => ?_⟩
  · by_cases q : i = 133
    · subst q; rw [sv_eq, sv_eq, t3_ne (by decide) (by decide) (by decide), t3_ne (by decide) (by decide) (by decide), e.1 133 (by omega) (by omega)]
    · rw [sv_ne q, sv_ne q]
      by_cases q1 : i = 134
      · subst q1; rw [t3_134, t3_134]
      · by_cases q2 : i = 135
        · subst q2; rw [t3_135, t3_135]
        · by_cases q3 : i = 136
          · subst q3; rw [t3_136, t3_136]
          · rw [t3_ne q1 q2 q3, t3_ne q1 q2 q3]; exact e.1 i a b
  · rw [sv_ne (by decide), sv_ne (by decide), t3_ne (by decide) (by decide) (by decide), t3_ne (by decide) (by decide) (by decide)]; exact e.2 j hj
theorem s_mmake {n : Nat} {mem bg : Nat → Nat} {M T : St} {post : Int32 → St → Prop} (hn : n ≤ 10) (hB : By 131 mem M) (h2 : M.1 130 2 = nI n) (hbg : ∀ r, r < n → M.1 132 r = nI (bg r) ∧ bg r < 256) (em : EqM M (sv T 130 0 0))
    (hp : ∀ T', EqM (gsq (mkD mem bg) (mkG mem bg) M n).1 T' → FM (sv T 130 0 0) T' → post (nI (gsq (mkD mem bg) (mkG mem bg) M n).2) (sv T' 130 14 (T'.1 130 14 + nI (gsq (mkD mem bg) (mkG mem bg) M n).2))) : wp_X7_make T post := by
  unfold wp_X7_make
  obtain ⟨N0, e0⟩ : ∃ N0, N0 = sv T 130 0 0 := ⟨_, rfl⟩
  rw [← e0] at em hp ⊢
  refine LW_acc n (fun r x U => x = nI (gsq (mkD mem bg) (mkG mem bg) M r).2 ∧ EqM (gsq (mkD mem bg) (mkG mem bg) M r).1 U ∧ FM N0 U) ⟨rfl, em, fun _ _ => rfl, rfl, rfl⟩ ?_
  rintro r x U hr ⟨rfl, hE, hF⟩ k hk
  obtain ⟨N, eN⟩ : ∃ N, N = (gsq (mkD mem bg) (mkG mem bg) M r).1 := ⟨_, rfl⟩
  rw [← eN] at hE
  have hne : ∀ a, a ≠ 133 → a ≠ 134 → a ≠ 135 → a ≠ 136 → N.1 a = M.1 a := fun a a1 a2 a3 a4 => by rw [eN]; exact gsq_ne (fun r N => mkG_ne a1 a2 a3 a4) r
  have u2 : U.1 130 2 = nI n := by rw [hE.2 2 (by omega), hne 130 (by decide) (by decide) (by decide) (by decide)]; exact h2
  unfold wb_X7_make_9
  show (U.1 130 2 ≤ nI r → _) ∧ _
  rw [u2, leN (by omega) (by omega)]
  refine ⟨fun q => ?_, fun q => ⟨vin (by omega) (by omega), ?_⟩⟩
  · have : r = n := by omega
    subst this
    exact hp U (by rw [← eN]; exact hE) hF
  · have hrn : r < n := by omega
    have stay : ∀ U', ¬ mkD mem bg r N → EqM N U' → FM N0 U' → k (nI (gsq (mkD mem bg) (mkG mem bg) M r).2, nI r + 1) U' := fun U' hd a b => hk _ _ hrn (by rw [gsq_n (by rw [← eN]; exact hd), ← eN]; exact ⟨rfl, a, b⟩)
    show (¬ U.1 133 (nI r).toNatClampNeg = 0 → _) ∧ _
    rw [cl (by omega), hE.1 133 (by omega) (by omega), hE.1 137 (by omega) (by omega), hE.1 132 (by omega) (by omega), hne 132 (by decide) (by decide) (by decide) (by decide), (hbg r hrn).1]
    refine ⟨fun z => stay U (fun hd => z hd.1) hE hF, fun z => ⟨vin (by omega) (by omega), fun z2 => stay U (fun hd => absurd (Int32.lt_of_lt_of_le hd.2.1 z2) (Int32.lt_irrefl)) hE hF, fun z2 => ⟨vin (by omega) (by omega), ?_⟩⟩⟩
    have hB' : By 131 mem U := fun p hp => by rw [hE.1 131 (by omega) (by omega), hne 131 (by decide) (by decide) (by decide) (by decide)]; exact hB p hp
    have hEt : ∀ hd gn cv, EqM N (tri U hd gn cv) := fun hd gn cv => ⟨fun i a b => by rw [tri_ne (by omega)]; exact hE.1 i a b, fun j hj => by rw [tri_ne (by omega)]; exact hE.2 j hj⟩
    have hFt : ∀ hd gn cv, FM N0 (tri U hd gn cv) := fun hd gn cv => ⟨fun j hj => by rw [tri_ne (by omega)]; exact hF.1 j hj, by rw [tri_ne (by omega)]; exact hF.2.1, by rw [tri_2]; exact hF.2.2⟩
    refine s_find (hbg r hrn).2 hB' (fun hd gn cv hk' hx => ⟨fun w => absurd w (by decide), fun _ => ?_⟩) (fun hd gn cv hnk => ⟨fun _ => stay _ (fun hd => hnk hd.2.2) (hEt _ _ _) (hFt _ _ _), fun w => absurd rfl w⟩)
    have hEV := hEt hd gn cv
    have hFV := hFt hd gn cv
    obtain ⟨V, eV⟩ : ∃ V, V = tri U hd gn cv := ⟨_, rfl⟩
    have v146 : V.1 146 = hd := by rw [eV, tri_146]
    have v148 : V.1 148 = cv := by rw [eV, tri_148]
    rw [← eV] at hEV hFV ⊢
    refine LW_cnt 256 (fun i W => W = t3 V (cp3 (256 * r) (256 * r + i) (V.1 134) (fun k => hd (k - 256 * r))) (cp3 (256 * r) (256 * r + i) (V.1 135) (fun k => if cvv mem gn (k - 256 * r) = 0 then 0 else 1)) (cp3 (256 * r) (256 * r + i) (V.1 136) (fun k => V.1 131 (k - 256 * r)))) (by rw [Nat.add_zero, cp3_0, cp3_0, cp3_0, t3_self]) ?_
    rintro i W hi rfl k2 hk2
    unfold wb_X7_make_51
    rw [n_256, leN (by omega) (by omega)]
    refine ⟨fun q2 => ⟨vin (by omega) (by omega), hk _ _ hrn ?_⟩, fun q2 => ?_⟩
    · have : i = 256 := by omega
      subst this
      have hd' : mkD mem bg r N := ⟨z, Int32.not_le.mp z2, hk'⟩
      rw [gsq_y (by rw [← eN]; exact hd'), ← eN, cl (by omega), narZ1]
      refine ⟨nI_1 _, ?_, ⟨fun j hj => by rw [sv_ne (by omega), t3_ne (by omega) (by omega) (by omega)]; exact hFV.1 j hj, by rw [sv_ne (by decide), t3_ne (by decide) (by decide) (by decide)]; exact hFV.2.1, hFV.2.2⟩⟩
      show EqM (sv (mkR mem (bg r) r N) 133 r 1) _
      rw [mkR_t3]
      refine t3_eq hEV ?_ ?_ ?_ r 1
      · rw [hEV.1 134 (by omega) (by omega)]
        refine cp3_cg (fun k k1 k2 => ?_)
        obtain ⟨x1, x2, -⟩ := hx (k - 256 * r) (by omega)
        show hd (k - 256 * r) = if rb mem (bg r) (k - 256 * r) = true then 1 else 0
        by_cases e : rb mem (bg r) (k - 256 * r) = true
        · rw [if_pos e]; exact x2.mpr (rb_iff.mp e)
        · rw [if_neg e]; exact x1.resolve_right (fun w => e (rb_iff.mpr (x2.mp w)))
      · rw [hEV.1 135 (by omega) (by omega)]
        refine cp3_cg (fun k k1 k2 => ?_)
        have := cvv_cvb (mem := mem) (gn := gn) (s := bg r) (fun p hp => (hx p hp).2.2.2) (p := k - 256 * r) (by omega)
        show (if cvv mem gn (k - 256 * r) = 0 then (0 : Int32) else 1) = if cvb mem (bg r) (k - 256 * r) = true then 1 else 0
        by_cases e : cvv mem gn (k - 256 * r) = 0
        · rw [if_pos e, if_neg (fun w => this.mp w e)]
        · rw [if_neg e, if_pos (this.mpr e)]
      · rw [hEV.1 136 (by omega) (by omega), hEV.1 131 (by omega) (by omega)]
    · have hi' : i < 256 := by omega
      obtain ⟨x1, x2, x3, x4⟩ := hx i hi'
      rw [← n_256, ix256]
      have hcv : cvv mem gn i ≤ 2 := by unfold cvv; split <;> split <;> omega
      refine ⟨vin (by omega) (by omega), vin (by omega) (by omega), vin (by omega) (by omega), ?_⟩
      rw [cl (i := 256 * r + i) (by omega), cl (i := i) (by omega), t3_ne (a := 146) (by decide) (by decide) (by decide), v146, narB x1, t3_s134, t3_ne (a := 148) (by decide) (by decide) (by decide), v148, x3, n_0, leN (by omega) (by omega)]
      have fin : ∀ b : Int32, B01 b → b = (if cvv mem gn i = 0 then 0 else 1) → wj_X7_make_101 (nI r) k2 (nI i) b (nI (256 * r + i)) (t3 V (upd (cp3 (256 * r) (256 * r + i) (V.1 134) (fun k => hd (k - 256 * r))) (256 * r + i) (hd i)) (cp3 (256 * r) (256 * r + i) (V.1 135) (fun k => if cvv mem gn (k - 256 * r) = 0 then 0 else 1)) (cp3 (256 * r) (256 * r + i) (V.1 136) (fun k => V.1 131 (k - 256 * r)))) post := by
        intro b hb eb
        unfold wj_X7_make_101
        rw [ix256, cl (by omega), cl (i := i) (by omega)]
        refine ⟨vin (by omega) (by omega), vin (by omega) (by omega), vin (by omega) (by omega), ?_⟩
        rintro T42 rfl
        refine hk2 _ hi' ?_
        rw [narB hb, t3_s135, t3_ne (a := 131) (by decide) (by decide) (by decide), t3_s136]
        rw [← Nat.add_assoc, ← cp3_s (old := V.1 134) (by omega), ← cp3_s (old := V.1 135) (by omega), ← cp3_s (old := V.1 136) (by omega)]
        simp only [Nat.add_sub_cancel_left]
        rw [eb]
      refine ⟨fun w => fin 0 (Or.inl rfl) (by rw [if_pos (by omega)]), fun w => fin 1 (Or.inr rfl) (by rw [if_neg (by omega)])⟩
theorem op_make {i : Nat} {T : St} (h : Rel i T T) : wp_X6_make T (fun r T1 => wp_X7_make T1 (fun r' T2 => r = r' ∧ Rel (i + 1) T2 T2)) := by
  obtain ⟨l, n, mem, bg, ns, sn, nk, fi, kp, h1, h2, h3, h4, h5, h6⟩ := h
  obtain ⟨a, b, c, d, f⟩ := h1
  refine s_make (n := n) (mem := mem) (bg := bg) (M := T) ⟨l, a, c, d, fun _ _ _ _ _ => rfl, fun _ _ => rfl, rfl⟩ (fun C hG => ?_)
  obtain ⟨l', a', c', d', f1, f2, f3⟩ := hG
  obtain ⟨cn, ecn⟩ : ∃ cn, cn = (gsq (mkD mem bg) (mkG mem bg) T n).2 := ⟨_, rfl⟩
  rw [← ecn]
  obtain ⟨C1, e1⟩ : ∃ C1, C1 = sv C 0 11 (C.1 0 11 + nI cn) := ⟨_, rfl⟩
  rw [← e1]
  have c1 : ∀ j, j ≠ 0 → C1.1 j = C.1 j := fun j hj => by rw [e1, sv_ne hj]
  have c10 : ∀ j, j ≠ 11 → C1.1 0 j = C.1 0 j := fun j hj => by rw [e1, sv_j hj]
  have em : EqM T (sv C1 130 0 0) := ⟨fun j j1 j2 => by rw [sv_ne (by omega), c1 j (by omega)]; exact f1 j (by omega) (by omega) (by omega) (by omega), fun j hj => by rw [sv_j (by omega), c1 130 (by omega)]; exact congrFun (f1 130 (by omega) (by omega) (by omega) (by omega)) j⟩
  refine s_mmake (n := n) (mem := mem) (bg := bg) a.1.1 a.2.1 a.1.2.2 (fun r hr => ⟨(a.2.2.2.1 r hr).2.1, (a.2.2.2.1 r hr).2.2⟩) em (fun M hE hF => ?_)
  rw [← ecn]
  refine ⟨rfl, ?_⟩
  obtain ⟨F, eF⟩ : ∃ F, F = sv M 130 14 (M.1 130 14 + nI cn) := ⟨_, rfl⟩
  rw [← eF]
  have m130 : ∀ j, j ≠ 0 → M.1 130 j = T.1 130 j := fun j hj => by rw [hF.2.1, sv_j hj, c1 130 (by omega)]; exact congrFun (f1 130 (by omega) (by omega) (by omega) (by omega)) j
  have m14 : ∀ j, (142 ≤ j ∧ j ≤ 145) → M.1 j = T.1 j := fun j hj => by rw [hF.1 j (by omega), sv_ne (by omega), c1 j (by omega)]; exact f1 j (by omega) (by omega) (by omega) (by omega)
  have g : ∀ j, j ≠ 130 → F.1 j = M.1 j := fun j hj => by rw [eF, sv_ne hj]
  have g130 : ∀ j, j ≠ 14 → F.1 130 j = M.1 130 j := fun j hj => by rw [eF, sv_j hj]
  have gc : ∀ j, j < 130 → F.1 j = C1.1 j := fun j hj => by rw [g j (by omega), hF.1 j (by omega), sv_ne (by omega)]
  have e0 : ∀ j, j ≠ 11 → C1.1 0 j = T.1 0 j := fun j hj => by rw [c10 j hj, f1 0 (by omega) (by omega) (by omega) (by omega)]
  have hcore : Core l' n mem bg C1 (gsq (mkD mem bg) (mkG mem bg) T n).1 := by
    refine ⟨a'.cls (by rw [c10 9 (by decide)]) (fun j hj => c1 j (by omega)), ?_, fun j hj => by rw [c1 4 (by decide)]; exact c' j hj, fun p hp => by rw [c1 5 (by decide)]; exact d' p hp, ?_⟩
    · unfold DC at b ⊢
      rw [drp_self] at b ⊢
      rw [gsq_ne (a := 130) (fun r N => mkG_ne (by decide) (by decide) (by decide) (by decide)), e0 12 (by decide)]; exact b
    · rw [gsq_ne (a := 130) (fun r N => mkG_ne (by decide) (by decide) (by decide) (by decide)), c1 4 (by decide), f2 4 (by decide)]; exact f
  refine Rel.fin hcore ⟨fun j j1 j2 => by rw [g j (by omega)]; exact hE.1 j j1 j2, fun j hj => by rw [g130 j (by omega)]; exact hE.2 j hj⟩ gc (h2.cg (fun j hj => by rw [c1 j (by omega)]; exact f1 j (by omega) (by omega) (by omega) (by omega))) (h3.cg (by rw [g 143 (by decide)]; exact m14 143 (by omega)) (by rw [g130 21 (by decide), m130 21 (by decide)])) (h4.cg (fun j hj => by rw [c1 j (by omega)]; exact f1 j (by omega) (by omega) (by omega) (by omega)) (e0 10 (by decide))) (h5.cg (by rw [g 142 (by decide)]; exact m14 142 (by omega)) (by rw [g130 19 (by decide), m130 19 (by decide)])) ?_
  obtain ⟨q1, q2, q3, x, y, q4, q5, q6, q7, q8⟩ := h6
  have e117 : C1.1 117 = T.1 117 := by rw [c1 117 (by decide)]; exact f1 117 (by omega) (by omega) (by omega) (by omega)
  have fs : F.2 = T.2 := by rw [eF, sv2, hF.2.2, sv2, e1, sv2, f3]
  refine ⟨?_, by rw [e0 13 (by decide), g130 16 (by decide), m130 16 (by decide)]; exact q2, by rw [e117, g 145 (by decide), m14 145 (by omega)]; exact q3, x, y, by omega, by rw [e0 14 (by decide)]; exact q5, by rw [e0 15 (by decide)]; exact q6, by rw [fs]; exact q7, by rw [fs]; exact q8⟩
  rw [e1, sv_k, eF, sv_k, m130 14 (by decide), f1 0 (by omega) (by omega) (by omega) (by omega), q1]
