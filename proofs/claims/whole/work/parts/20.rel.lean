/-! class and model side by side -/
def cu (C : St) (r : Nat) : Nat := mb (27 + 9 * r) (C.1 (27 + 9 * r) 0)
def asi (C : St) (r : Nat) : Nat := mb (27 + 9 * r) (C.1 (27 + 9 * r) 1)
def Ori (C : St) (r : Nat) : Prop := (C.1 (27 + 9 * r) 0 = 0 ∧ C.1 (27 + 9 * r) 1 = 1) ∨ (C.1 (27 + 9 * r) 0 = 1 ∧ C.1 (27 + 9 * r) 1 = 0)
/-- a member of the class, and the model's rows for it -/
def MR (m : Nat) (T : St) (hd inn md : Nat → Int32) : Prop := ∃ (c : Nat) (g mem : Nat → Nat), MO m c g mem T ∧ (∀ p, p < 256 → md p = nI (mem p) ∧ mem p < 256) ∧ (∀ p, p < 256 → B01 (hd p) ∧ (hd p = 1 ↔ ∃ i, i < c ∧ g i = p)) ∧ (∀ p, p < 256 → B01 (inn p) ∧ (inn p = 1 ↔ ∃ i, i < c ∧ (p = g i ∨ (hop (mem (g i)) = true ∧ p = (g i + 1) % 256)))) ∧ (∀ i, i < c → mem (g i) ≤ 12) ∧ ∀ i, i < c → hop (mem (g i)) = true → ∀ j, j < c → g j ≠ (g i + 1) % 256
def row (M : St) (a r : Nat) : Nat → Int32 := fun p => M.1 a (256 * r + p)
/-- is it dropped since the masks were Lm -/
def drp (lm l : Nat → Bool) (r : Nat) : Bool := lm r && !l r
/-- within a call: lm are the members at its beginning, l those of now -/
def RM (lm l : Nat → Bool) (n : Nat) (mem bg : Nat → Nat) (C M : St) : Prop :=
  (n ≤ 10 ∧ C.1 0 9 = nI n ∧ M.1 130 2 = nI n) ∧ By 131 mem M ∧ (∀ r, r < 10 → Ori C r) ∧
  (∀ r, r < n → C.1 (27 + 9 * r) 3 = nI (bg r) ∧ M.1 132 r = nI (bg r) ∧ bg r < 256) ∧
  (∀ i, l i = true → lm i = true) ∧ (∀ i, lm i = true → i < n) ∧
  (∀ r, r < n → B01 (M.1 133 r) ∧ (M.1 133 r = 1 ↔ l r = true)) ∧
  (∀ r, r < n → lm r = true → MR (cu C r) C (row M 134 r) (row M 135 r) (row M 136 r)) ∧
  (∀ r, r < n → l r = true → ∀ p, p < 256 → row M 135 r p = 1 → row M 136 r p = nI (mem p)) ∧
  (∀ r, r < n → B01 (M.1 138 r) ∧ (drp lm l r = true → M.1 137 r = C.1 (27 + 9 * r) 4 + 1 ∧ M.1 138 r = 1 ∧ ∀ p, p < 256 → row M 139 r p = row M 134 r p ∧ row M 140 r p = row M 135 r p ∧ row M 141 r p = row M 136 r p) ∧
    (drp lm l r = false → M.1 137 r = C.1 (27 + 9 * r) 4 ∧ M.1 138 r = C.1 (27 + 9 * r) 2 ∧ (M.1 138 r = 1 → MR (asi C r) C (row M 139 r) (row M 140 r) (row M 141 r)))) ∧
  (∀ p, p < 256 → ∀ r, r < 32 → (bt (C.1 2 p) r = true ↔ r < n ∧ lm r = true ∧ row M 135 r p = 1)) ∧
  (∀ g, g < 16 → ∀ r, r < 32 → (bt (C.1 3 g) r = true ↔ r < n ∧ lm r = true ∧ ∃ k, k < 16 ∧ row M 135 r (16 * g + k) = 1))
/-- how many were dropped in all -/
def DC (lm l : Nat → Bool) (C M : St) : Prop := M.1 130 15 = C.1 0 12 + nI (cnt (drp lm l) 10)
/-- Memory.become on the memory o -/
def cbec (o p v : Nat) (C : St) : St :=
  if C.1 (o + 1) p = nI v then C else
    sv (sv (sv (if C.1 3 (p / 16) &&& C.1 o 2 = 0 then C else sv C o 4 (C.1 o 4 + 1)) (o + 1) p (nI v)) o 5 (C.1 o 5 + 1)) o 2 (C.1 o 2 &&& (C.1 2 p ^^^ (-1)))
theorem s_become {o p v : Nat} {x : Int32} {C : St} {post : St → Prop} (ho : 4 ≤ o) (hx : x &&& 255 = nI p) (hp : p < 256) (h : post (cbec o p v C)) : wp_X4_become o x (nI v) C post := by
  unfold wp_X4_become
  rw [hx, show nI p >>> ((4 : Int32) &&& 31) = nI (p / 16) by exact pk_shrN (by omega) _ 4 rfl]
  refine ⟨vin hp (by omega), ?_⟩
  rw [cl (by omega), cl (by omega)]
  unfold cbec at h
  refine ⟨fun hne => ⟨vin (by omega) (by omega), ?_⟩, fun he => by rw [if_pos he] at h; exact h⟩
  rw [if_neg hne] at h
  have fin : ∀ C1 : St, C1.1 o 5 = C.1 o 5 → C1.1 o 2 = C.1 o 2 → C1.1 2 = C.1 2 → post (sv (sv (sv C1 (o + 1) p (nI v)) o 5 (C.1 o 5 + 1)) o 2 (C.1 o 2 &&& (C.1 2 p ^^^ (-1)))) → wj_X4_become_46 o (nI v) (nI p) C1 post := by
    intro C1 e5 e2 e22 hh
    unfold wj_X4_become_46
    refine ⟨vin hp (by omega), vin hp (by omega), ?_⟩
    rintro T9 rfl
    rw [cl (by omega)]
    rw [sv_ne (o := o + 1) (i := o) (by omega), e5, sv_j (o := o) (k := 5) (j := 2) (by decide), sv_ne (o := o + 1) (i := o) (by omega), e2, sv_ne (o := o) (i := 2) (by omega), sv_ne (o := o + 1) (i := 2) (by omega), e22]
    exact hh
  refine ⟨fun e => fin C rfl rfl rfl (by rw [if_pos e] at h; exact h), fun e => fin _ (sv_j (by decide)) (sv_j (by decide)) (sv_ne (by omega)) (by rw [if_neg e] at h; exact h)⟩
