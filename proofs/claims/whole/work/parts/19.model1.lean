/-! the model: drop, isLooked, becomes -/
theorem nI_mul (a b : Nat) : nI a * nI b = nI (a * b) := pk_mul a b
theorem ix256 {r p : Nat} : (256 * nI r) + nI p = nI (256 * r + p) := by rw [n_256, nI_mul, nI_add]
/-- three rows copied as far as a place -/
def cp3 (a n : Nat) (old new : Nat → Int32) : Nat → Int32 := fun k => if a ≤ k ∧ k < n then new k else old k
theorem cp3_0 {a : Nat} {old new : Nat → Int32} : cp3 a a old new = old := by funext k; unfold cp3; rw [if_neg (by omega)]
theorem cp3_s {a n : Nat} {old new : Nat → Int32} (h : a ≤ n) : upd (cp3 a n old new) n (new n) = cp3 a (n + 1) old new := by
  funext k
  unfold upd cp3
  by_cases e : k = n
  · subst e; rw [if_pos rfl, if_pos (by omega)]
  · rw [if_neg e]
    by_cases q : a ≤ k ∧ k < n
    · rw [if_pos q, if_pos (by omega)]
    · rw [if_neg q, if_neg (by omega)]
/-- behind drop(r) -/
def dropM (r : Nat) (M : St) : St :=
  sa (sa (sa (sa (sa (sa (sa M 139 (cp3 (256 * r) (256 * r + 256) (M.1 139) (M.1 134))) 140 (cp3 (256 * r) (256 * r + 256) (M.1 140) (M.1 135))) 141 (cp3 (256 * r) (256 * r + 256) (M.1 141) (M.1 136))) 138 (upd (M.1 138) r 1)) 133 (upd (M.1 133) r 0)) 137 (upd (M.1 137) r (M.1 137 r + 1))) 130 (upd (M.1 130) 15 (M.1 130 15 + 1))
theorem s_drop {r : Nat} {M : St} {post : St → Prop} (hr : r < 10) (hb : ∀ p, p < 256 → B01 (M.1 134 (256 * r + p)) ∧ B01 (M.1 135 (256 * r + p))) (h : post (dropM r M)) : wp_X7_drop (nI r) M post := by
  unfold wp_X7_drop
  rw [show (256 : Int32) * nI r = nI (256 * r) by rw [n_256, nI_mul]]
  refine LW_gen 256 (fun i v T => v = nI (256 * r + i) ∧ T = sa (sa (sa M 139 (cp3 (256 * r) (256 * r + i) (M.1 139) (M.1 134))) 140 (cp3 (256 * r) (256 * r + i) (M.1 140) (M.1 135))) 141 (cp3 (256 * r) (256 * r + i) (M.1 141) (M.1 136))) ⟨rfl, ?_⟩ ?_
  · rw [Nat.add_zero, cp3_0, cp3_0, cp3_0, sa_self, sa_self, sa_self]
  · rintro i v T hi ⟨rfl, rfl⟩ k hk
    unfold wb_X7_drop_6
    rw [show (256 : Int32) * nI r + 256 = nI (256 * r + 256) by rw [n_256, nI_mul, nI_add], leN (by omega) (by omega)]
    refine ⟨fun q => ⟨vin hr (by omega), vin hr (by omega), vin hr (by omega), vin hr (by omega), ?_⟩, fun q => ⟨vin (by omega) (by omega), vin (by omega) (by omega), vin (by omega) (by omega), vin (by omega) (by omega), ?_⟩⟩
    · rintro T15 rfl
      have : i = 256 := by omega
      subst this
      rw [cl (by omega), narZ1, narZ0]
      unfold sv
      simp only [sa1, reduceCtorEq, if_true, if_false, Nat.reduceEqDiff, ↓reduceIte]
      exact h
    · rintro T20 rfl
      obtain ⟨b1, b2⟩ := hb i (by omega)
      refine ⟨vin (by omega) (by omega), vin (by omega) (by omega), ?_⟩
      refine hk _ _ (by omega) ⟨nI_1 _, ?_⟩
      rw [cl (by omega)]
      unfold sv
      simp only [sa1, Nat.reduceEqDiff, ↓reduceIte]
      rw [narB b1, narB b2]
      rw [← Nat.add_assoc, ← cp3_s (old := M.1 139) (by omega), ← cp3_s (old := M.1 140) (by omega), ← cp3_s (old := M.1 141) (by omega)]
      rw [sa_comm (a := 141) (b := 139) (by decide), sa_comm (a := 140) (b := 139) (by decide), sa_sa, sa_comm (a := 141) (b := 140) (by decide), sa_sa, sa_sa]
/-- isLooked(page) -/
def Lk (n g : Nat) (M : St) : Prop := ∃ r, r < n ∧ M.1 133 r ≠ 0 ∧ ∃ k, k < 16 ∧ M.1 135 (256 * r + 16 * g + k) ≠ 0
theorem s_isLooked {n g : Nat} {M : St} {post : Int32 → St → Prop} (hn : n ≤ 10) (hg : g < 16) (he : M.1 130 2 = nI n) (h1 : Lk n g M → post 1 M) (h0 : ¬ Lk n g M → post 0 M) : wp_X7_isLooked (nI g) M post := by
  unfold wp_X7_isLooked
  refine LW_acc n (fun r x T => T = M ∧ B01 x ∧ (x = 1 ↔ Lk r g M)) ⟨rfl, Or.inl rfl, fun e => absurd e (by decide), fun ⟨r, hr, _⟩ => by omega⟩ ?_
  rintro r x T hr ⟨rfl, hx, hiff⟩ k4 hk4
  unfold wb_X7_isLooked_4
  show (T.1 130 2 ≤ nI r → _) ∧ _
  rw [he, leN (by omega) (by omega)]
  refine ⟨fun q => ⟨narN hx, ?_⟩, fun q => ?_⟩
  · have : r = n := by omega
    subst this
    rcases hx with hx | hx
    · have hx : x = 0 := hx
      subst hx
      exact h0 (fun hl => absurd (hiff.mpr hl) (by decide))
    · have hx : x = 1 := hx
      subst hx
      exact h1 (hiff.mp rfl)
  · refine LW_acc 16 (fun k y T' => T' = T ∧ B01 y ∧ (y = 1 ↔ x = 1 ∨ (T.1 133 r ≠ 0 ∧ ∃ k', k' < k ∧ T.1 135 (256 * r + 16 * g + k') ≠ 0))) ⟨rfl, hx, Or.inl, fun e => e.elim id (fun ⟨_, k', hk', _⟩ => by omega)⟩ ?_
    rintro k y T' hk ⟨rfl, hy, hyi⟩ k15 hk15
    have next : (T'.1 133 r = 0 ∨ k = 16) → k4 (y, nI r + 1) T' := fun hh => hk4 _ _ (by omega) ⟨rfl, hy, by
      rw [hyi]
      refine ⟨fun e => ?_, fun ⟨r', hr', h1', k', hk', h2'⟩ => ?_⟩
      · rcases e with e | ⟨e1, k', hk', e2⟩
        · obtain ⟨r', hr', z⟩ := hiff.mp e
          exact ⟨r', by omega, z⟩
        · exact ⟨r, by omega, e1, k', by omega, e2⟩
      · by_cases e : r' = r
        · subst e
          rcases hh with hh | hh
          · exact absurd hh h1'
          · exact Or.inr ⟨h1', k', by omega, h2'⟩
        · exact Or.inl (hiff.mpr ⟨r', by omega, h1', k', hk', h2'⟩)⟩
    unfold wb_X7_isLooked_15
    show (16 ≤ nI k → _) ∧ _
    rw [n_16, leN (by omega) (by omega)]
    refine ⟨fun q2 => next (Or.inr (by omega)), fun q2 => ⟨vin (by omega) (by omega), ?_⟩⟩
    rw [cl (by omega)]
    refine ⟨fun e => next (Or.inl e), fun e => ⟨fun ey => hk15 _ _ (by omega) ⟨rfl, Or.inr rfl, fun _ => ?_, fun _ => rfl⟩, fun ey => ?_⟩⟩
    · rcases hyi.mp (hy.ne.mp ey) with z | ⟨z1, k', z2, z3⟩
      · exact Or.inl z
      · exact Or.inr ⟨z1, k', by omega, z3⟩
    · have ey : y = 0 := ey
      have hny : ¬ (x = 1 ∨ (T'.1 133 r ≠ 0 ∧ ∃ k', k' < k ∧ T'.1 135 (256 * r + 16 * g + k') ≠ 0)) := fun z => by
        have := hyi.mpr z
        rw [ey] at this
        exact absurd this (by decide)
      rw [show (256 : Int32) * nI r + nI 16 * nI g + nI k = nI (256 * r + 16 * g + k) by rw [n_256, nI_mul, nI_mul, nI_add, nI_add]]
      refine ⟨vin (by omega) (by omega), ?_⟩
      rw [cl (by omega)]
      refine ⟨fun e2 => hk15 _ _ (by omega) ⟨rfl, Or.inl rfl, fun z => absurd z (by decide), fun z => ?_⟩, fun e2 => hk15 _ _ (by omega) ⟨rfl, Or.inr rfl, fun _ => Or.inr ⟨e, k, by omega, e2⟩, fun _ => rfl⟩⟩
      exfalso
      rcases z with z | ⟨z1, k', z2, z3⟩
      · exact hny (Or.inl z)
      · by_cases e3 : k' = k
        · subst e3; exact z3 e2
        · exact hny (Or.inr ⟨z1, k', by omega, z3⟩)
/-- which members a byte drops -/
def dq (M : St) (p r : Nat) : Bool := decide (M.1 133 r ≠ 0) && decide (M.1 135 (256 * r + p) ≠ 0)
def bst (M : St) (p : Nat) : Nat → St
  | 0 => M
  | r + 1 => if dq M p r then dropM r (bst M p r) else bst M p r
theorem dropM_ne {r : Nat} {M : St} {i : Nat} (h : i < 130 ∨ i = 131 ∨ i = 132 ∨ (134 ≤ i ∧ i ≤ 136) ∨ 141 < i) : (dropM r M).1 i = M.1 i := by
  unfold dropM
  rw [sa_ne (by omega), sa_ne (by omega), sa_ne (by omega), sa_ne (by omega), sa_ne (by omega), sa_ne (by omega), sa_ne (by omega)]
theorem dropM_2 {r : Nat} {M : St} : (dropM r M).2 = M.2 := rfl
theorem dropM_130 {r : Nat} {M : St} : (dropM r M).1 130 = upd (M.1 130) 15 (M.1 130 15 + 1) := by unfold dropM; rw [sa_eq]
theorem dropM_137 {r : Nat} {M : St} : (dropM r M).1 137 = upd (M.1 137) r (M.1 137 r + 1) := by unfold dropM; simp only [sa1, Nat.reduceEqDiff, ↓reduceIte]
theorem dropM_133 {r : Nat} {M : St} : (dropM r M).1 133 = upd (M.1 133) r 0 := by unfold dropM; simp only [sa1, Nat.reduceEqDiff, ↓reduceIte]
theorem dropM_138 {r : Nat} {M : St} : (dropM r M).1 138 = upd (M.1 138) r 1 := by unfold dropM; simp only [sa1, Nat.reduceEqDiff, ↓reduceIte]
theorem dropM_139 {r : Nat} {M : St} : (dropM r M).1 139 = cp3 (256 * r) (256 * r + 256) (M.1 139) (M.1 134) := by unfold dropM; simp only [sa1, Nat.reduceEqDiff, ↓reduceIte]
theorem dropM_140 {r : Nat} {M : St} : (dropM r M).1 140 = cp3 (256 * r) (256 * r + 256) (M.1 140) (M.1 135) := by unfold dropM; simp only [sa1, Nat.reduceEqDiff, ↓reduceIte]
theorem dropM_141 {r : Nat} {M : St} : (dropM r M).1 141 = cp3 (256 * r) (256 * r + 256) (M.1 141) (M.1 136) := by unfold dropM; simp only [sa1, Nat.reduceEqDiff, ↓reduceIte]
theorem bst_ne {M : St} {p i : Nat} (h : i < 130 ∨ i = 131 ∨ i = 132 ∨ (134 ≤ i ∧ i ≤ 136) ∨ 141 < i) : ∀ r, (bst M p r).1 i = M.1 i
  | 0 => rfl
  | r + 1 => by
    unfold bst
    split
    · rw [dropM_ne h, bst_ne h r]
    · exact bst_ne h r
theorem bst_2 {M : St} {p : Nat} : ∀ r, (bst M p r).2 = M.2
  | 0 => rfl
  | r + 1 => by
    unfold bst
    split
    · rw [dropM_2, bst_2 r]
    · exact bst_2 r
theorem bst_130 {M : St} {p : Nat} : ∀ r, (bst M p r).1 130 = upd (M.1 130) 15 (M.1 130 15 + nI (cnt (dq M p) r))
  | 0 => by
    funext j
    show M.1 130 j = _
    unfold upd
    by_cases e : j = 15
    · rw [if_pos e, e]; simp [cnt, nI_0]
    · rw [if_neg e]
  | r + 1 => by
    unfold bst
    by_cases e : dq M p r = true
    · rw [if_pos e, dropM_130, bst_130 r]
      funext j
      unfold upd
      by_cases e' : j = 15
      · simp only [if_pos e', if_true]
        show _ = M.1 130 15 + nI (cnt (dq M p) r + (if dq M p r then 1 else 0))
        rw [if_pos e, ← nI_1, ← Int32.add_assoc]
      · simp only [if_neg e']
    · rw [if_neg e, bst_130 r]
      show _ = upd _ 15 (M.1 130 15 + nI (cnt (dq M p) r + (if dq M p r then 1 else 0)))
      rw [if_neg e, Nat.add_zero]
/-- a row of one number a routine -/
theorem bst_row {M : St} {p i : Nat} {f : Int32 → Int32} (hi : ∀ r (N : St), (dropM r N).1 i = upd (N.1 i) r (f (N.1 i r))) : ∀ (r j : Nat), (bst M p r).1 i j = if j < r ∧ dq M p j = true then f (M.1 i j) else M.1 i j
  | 0, j => by rw [if_neg (by omega)]; rfl
  | r + 1, j => by
    unfold bst
    by_cases e : dq M p r = true
    · rw [if_pos e, hi]
      by_cases e' : j = r
      · subst e'; rw [upd_k, bst_row hi j j, if_neg (by omega), if_pos ⟨by omega, e⟩]
      · rw [upd_j e', bst_row hi r j]
        by_cases q : j < r ∧ dq M p j = true
        · rw [if_pos q, if_pos ⟨by omega, q.2⟩]
        · rw [if_neg q, if_neg (fun z => q ⟨by omega, z.2⟩)]
    · rw [if_neg e, bst_row hi r j]
      by_cases q : j < r ∧ dq M p j = true
      · rw [if_pos q, if_pos ⟨by omega, q.2⟩]
      · rw [if_neg q, if_neg (fun z => q ⟨by
          rcases Nat.lt_or_ge j r with w | w
          · exact w
          · exact absurd (show dq M p r = true by rw [show r = j by omega]; exact z.2) e, z.2⟩)]
theorem bst_133 {M : St} {p : Nat} (r j : Nat) : (bst M p r).1 133 j = if j < r ∧ dq M p j = true then 0 else M.1 133 j := bst_row (f := fun _ => 0) (fun _ _ => dropM_133) r j
theorem bst_137 {M : St} {p : Nat} (r j : Nat) : (bst M p r).1 137 j = if j < r ∧ dq M p j = true then M.1 137 j + 1 else M.1 137 j := bst_row (f := fun x => x + 1) (fun _ _ => dropM_137) r j
theorem bst_138 {M : St} {p : Nat} (r j : Nat) : (bst M p r).1 138 j = if j < r ∧ dq M p j = true then 1 else M.1 138 j := bst_row (f := fun _ => 1) (fun _ _ => dropM_138) r j
/-- a row of 256 numbers a routine -/
theorem bst_big {M : St} {p a b : Nat} (hb : b < 130 ∨ b = 131 ∨ b = 132 ∨ (134 ≤ b ∧ b ≤ 136) ∨ 141 < b) (hi : ∀ r (N : St), (dropM r N).1 a = cp3 (256 * r) (256 * r + 256) (N.1 a) (N.1 b)) : ∀ (r j q : Nat), q < 256 → (bst M p r).1 a (256 * j + q) = if j < r ∧ dq M p j = true then M.1 b (256 * j + q) else M.1 a (256 * j + q)
  | 0, j, q, hq => by rw [if_neg (by omega)]; rfl
  | r + 1, j, q, hq => by
    unfold bst
    by_cases e : dq M p r = true
    · rw [if_pos e, hi]
      unfold cp3
      by_cases e' : j = r
      · subst e'; rw [if_pos (by omega), bst_ne hb, if_pos ⟨by omega, e⟩]
      · rw [if_neg (by omega), bst_big hb hi r j q hq]
        by_cases w : j < r ∧ dq M p j = true
        · rw [if_pos w, if_pos ⟨by omega, w.2⟩]
        · rw [if_neg w, if_neg (fun z => w ⟨by omega, z.2⟩)]
    · rw [if_neg e, bst_big hb hi r j q hq]
      by_cases w : j < r ∧ dq M p j = true
      · rw [if_pos w, if_pos ⟨by omega, w.2⟩]
      · rw [if_neg w, if_neg (fun z => w ⟨by
          rcases Nat.lt_or_ge j r with u | u
          · exact u
          · exact absurd (show dq M p r = true by rw [show r = j by omega]; exact z.2) e, z.2⟩)]
theorem bst_139 {M : St} {p : Nat} (r j q : Nat) (hq : q < 256) : (bst M p r).1 139 (256 * j + q) = if j < r ∧ dq M p j = true then M.1 134 (256 * j + q) else M.1 139 (256 * j + q) := bst_big (by omega) (fun _ _ => dropM_139) r j q hq
theorem bst_140 {M : St} {p : Nat} (r j q : Nat) (hq : q < 256) : (bst M p r).1 140 (256 * j + q) = if j < r ∧ dq M p j = true then M.1 135 (256 * j + q) else M.1 140 (256 * j + q) := bst_big (by omega) (fun _ _ => dropM_140) r j q hq
theorem bst_141 {M : St} {p : Nat} (r j q : Nat) (hq : q < 256) : (bst M p r).1 141 (256 * j + q) = if j < r ∧ dq M p j = true then M.1 136 (256 * j + q) else M.1 141 (256 * j + q) := bst_big (by omega) (fun _ _ => dropM_141) r j q hq
/-- becomes(p, v) -/
def bec1 (M : St) (p v : Nat) (lk : Int32) : St := sv (sv M 130 13 (M.1 130 13 + lk)) 131 p (nI v)
theorem s_becomes {n p v : Nat} {M : St} {post : Int32 → St → Prop} (hn : n ≤ 10) (hp : p < 256) (he : M.1 130 2 = nI n) (hb : ∀ r, r < n → M.1 133 r ≠ 0 → ∀ q, q < 256 → B01 (M.1 134 (256 * r + q)) ∧ B01 (M.1 135 (256 * r + q)))
    (h1 : M.1 131 p = nI v → post (-1) M) (h2 : ∀ lk : Int32, M.1 131 p ≠ nI v → ((lk = 1 ∧ Lk n (p / 16) M) ∨ (lk = 0 ∧ ¬ Lk n (p / 16) M)) → post (nI (cnt (dq M p) n)) (bst (bec1 M p v lk) p n)) : wp_X7_becomes (nI p) (nI v) M post := by
  unfold wp_X7_becomes
  refine ⟨vin hp (by omega), ?_⟩
  rw [cl (by omega)]
  refine ⟨fun hne => ?_, h1⟩
  rw [show nI p / 16 = nI (p / 16) by rw [n_16, pk_div (by omega) (by omega) (by omega)]]
  have key : ∀ lk : Int32, ((lk = 1 ∧ Lk n (p / 16) M) ∨ (lk = 0 ∧ ¬ Lk n (p / 16) M)) → wj_X7_becomes_33 (nI p) (nI v) lk (M.1 130 13) M post := by
    intro lk hlk
    unfold wj_X7_becomes_33
    refine ⟨vin hp (by omega), ?_⟩
    rw [cl (by omega)]
    show LW _ _ (bec1 M p v lk)
    obtain ⟨N, eN⟩ : ∃ N, N = bec1 M p v lk := ⟨_, rfl⟩
    have r130 : N.1 130 2 = nI n := by rw [eN]; unfold bec1; rw [sv_ne (by decide), sv_j (by decide)]; exact he
    have rne : ∀ i, i ≠ 130 → i ≠ 131 → N.1 i = M.1 i := fun i h1 h2 => by rw [eN]; unfold bec1; rw [sv_ne h2, sv_ne h1]
    have edq : ∀ r, dq N p r = dq M p r := fun r => by unfold dq; rw [rne 133 (by decide) (by decide), rne 135 (by decide) (by decide)]
    rw [← eN]
    refine LW_acc n (fun r x T => x = nI (cnt (dq N p) r) ∧ T = bst N p r) ⟨rfl, rfl⟩ ?_
    rintro r x T hr ⟨rfl, rfl⟩ k hk
    have hcr := cnt_le (dq N p) r
    unfold wb_X7_becomes_49
    show ((bst N p r).1 130 2 ≤ nI r → _) ∧ _
    rw [bst_130, upd_j (by decide), r130, leN (by omega) (by omega)]
    refine ⟨fun q => ?_, fun q => ⟨vin (by omega) (by omega), ?_⟩⟩
    · have : r = n := by omega
      subst this
      have := h2 lk hne hlk
      rw [← eN, ← cnt_congr (f := dq N p) (g := dq M p) (fun i _ => edq i)] at this
      exact this
    · rw [cl (by omega), bst_133, if_neg (by omega), bst_ne (i := 135) (by omega)]
      have stay : dq N p r = false → k (nI (cnt (dq N p) r), nI r + 1) (bst N p r) := fun e => hk _ _ (by omega) ⟨by
        show _ = nI (cnt (dq N p) r + (if dq N p r then 1 else 0))
        rw [e]; rfl, by
        show _ = (if dq N p r then dropM r (bst N p r) else bst N p r)
        rw [e]; rfl⟩
      refine ⟨fun e => stay (by unfold dq; simp [e]), fun e => ?_⟩
      rw [show (256 : Int32) * nI r + nI p = nI (256 * r + p) from ix256]
      refine ⟨vin (by omega) (by omega), ?_⟩
      rw [cl (by omega)]
      refine ⟨fun e2 => stay (by unfold dq; simp [e2]), fun e2 => ?_⟩
      have ed : dq N p r = true := by unfold dq; simp [e, e2]
      refine s_drop (by omega) (fun q' hq' => ?_) ?_
      · rw [bst_ne (by omega), bst_ne (by omega), rne 134 (by decide) (by decide), rne 135 (by decide) (by decide)]
        exact hb r (by omega) (by rw [← rne 133 (by decide) (by decide)]; exact e) q' hq'
      · refine hk _ _ (by omega) ⟨?_, ?_⟩
        · show _ = nI (cnt (dq N p) r + (if dq N p r then 1 else 0))
          rw [ed, nI_1]; rfl
        · show _ = (if dq N p r then dropM r (bst N p r) else bst N p r)
          rw [ed]; rfl
  exact s_isLooked hn (by omega) he (fun hl => ⟨fun z => absurd z (by decide), fun _ => key 1 (Or.inl ⟨rfl, hl⟩)⟩) (fun hl => ⟨fun _ => key 0 (Or.inr ⟨rfl, hl⟩), fun z => absurd rfl z⟩)
