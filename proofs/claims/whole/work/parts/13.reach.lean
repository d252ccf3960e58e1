/-! PURE: what a routine reaches; Member.fill -/
def oi (p b : Nat) : Int32 := ((nI p + 2) + (nI b).toInt8.toInt32) &&& 255
def nx (mem : Nat → Nat) (p : Nat) : Nat := (p + ln (mem p)) % 256
def ot (mem : Nat → Nat) (p : Nat) : Nat := (oi p (mem ((p + 1) % 256))).toNatClampNeg
theorem oi_ok (p b : Nat) : (oi p b).toNatClampNeg < 256 ∧ oi p b = nI (oi p b).toNatClampNeg := by
  obtain ⟨j, h1, h2⟩ := a255x ((nI p + 2) + (nI b).toInt8.toInt32)
  have e : oi p b = nI j := h2
  rw [e, cl (by omega)]
  exact ⟨h1, rfl⟩
theorem nx_lt (mem : Nat → Nat) (p : Nat) : nx mem p < 256 := Nat.mod_lt _ (by omega)
theorem ot_lt (mem : Nat → Nat) (p : Nat) : ot mem p < 256 := (oi_ok _ _).1
/-- where an act of a kind goes on -/
def Su (mem : Nat → Nat) (p y : Nat) : Prop := mem p ≤ 12 ∧ ((mem p ≠ 0 ∧ mem p ≠ 6 ∧ y = nx mem p) ∨ (cge (mem p) = true ∧ y = ot mem p))
def Rch (mem : Nat → Nat) (s p : Nat) : Prop := ∀ S : Nat → Prop, S s → (∀ x y, S x → Su mem x y → S y) → S p
theorem Rch.rf {mem : Nat → Nat} {s : Nat} : Rch mem s s := fun S h _ => h
theorem Rch.st {mem : Nat → Nat} {s x y : Nat} (h : Rch mem s x) (h2 : Su mem x y) : Rch mem s y := fun S h0 hs => hs x y (h S h0 hs) h2
theorem Su.lt {mem : Nat → Nat} {p y : Nat} (h : Su mem p y) : y < 256 := by
  rcases h.2 with ⟨-, -, rfl⟩ | ⟨-, rfl⟩
  · exact nx_lt mem p
  · exact ot_lt mem p
theorem Rch.lt {mem : Nat → Nat} {s p : Nat} (hs : s < 256) (h : Rch mem s p) : p < 256 := h (fun p => p < 256) hs (fun _ _ _ h => h.lt)
noncomputable def rb (mem : Nat → Nat) (s p : Nat) : Bool := @decide (Rch mem s p) (Classical.propDecidable _)
theorem rb_iff {mem : Nat → Nat} {s p : Nat} : rb mem s p = true ↔ Rch mem s p := by unfold rb; exact @decide_eq_true_iff _ (Classical.propDecidable _)
/-! how many -/
def cnt (f : Nat → Bool) : Nat → Nat
  | 0 => 0
  | n + 1 => cnt f n + (if f n then 1 else 0)
theorem cnt_congr {f g : Nat → Bool} : ∀ {n : Nat}, (∀ i, i < n → f i = g i) → cnt f n = cnt g n
  | 0, _ => rfl
  | n + 1, h => by
    show cnt f n + _ = cnt g n + _
    rw [cnt_congr (n := n) (fun i hi => h i (by omega)), h n (by omega)]
theorem cnt_le (f : Nat → Bool) : ∀ n, cnt f n ≤ n
  | 0 => Nat.le_refl _
  | n + 1 => by
    have := cnt_le f n
    show cnt f n + _ ≤ n + 1
    split <;> omega
theorem cnt_off {f : Nat → Bool} {a : Nat} (hf : f a = true) : ∀ {n : Nat}, a < n → cnt f n = cnt (fun x => if x = a then false else f x) n + 1
  | 0, h => absurd h (Nat.not_lt_zero _)
  | n + 1, h => by
    show cnt f n + (if f n then 1 else 0) = cnt _ n + (if (if n = a then false else f n) then 1 else 0) + 1
    by_cases e : n = a
    · subst e
      rw [cnt_congr (f := fun x => if x = n then false else f x) (g := f) (n := n) (fun i hi => by rw [if_neg (by omega)])]
      simp [hf]
    · rw [cnt_off hf (n := n) (by omega)]
      simp only [if_neg e]
      omega
theorem cnt_inj (N : Nat) : ∀ (c : Nat) (f : Nat → Bool) (h : Nat → Nat), (∀ i, i < c → h i < N ∧ f (h i) = true) → (∀ i j, i < c → j < c → h i = h j → i = j) → c ≤ cnt f N
  | 0, _, _, _, _ => Nat.zero_le _
  | c + 1, f, h, h1, h2 => by
    obtain ⟨a1, a2⟩ := h1 c (by omega)
    rw [cnt_off a2 a1]
    have := cnt_inj N c (fun x => if x = h c then false else f x) h (fun i hi => ⟨(h1 i (by omega)).1, by
      show (if h i = h c then false else f (h i)) = true
      rw [if_neg (fun e => by have := h2 i c (by omega) (by omega) e; omega)]
      exact (h1 i (by omega)).2⟩) (fun i j hi hj e => h2 i j (by omega) (by omega) e)
    omega
theorem cnt_0 {f : Nat → Bool} : ∀ {n : Nat}, (∀ i, i < n → f i = false) → cnt f n = 0
  | 0, _ => rfl
  | n + 1, h => by
    show cnt f n + _ = 0
    rw [cnt_0 (n := n) (fun i hi => h i (by omega)), h n (by omega)]
    rfl
theorem cnt_all (N : Nat) : ∀ (c : Nat) (f : Nat → Bool) (h : Nat → Nat), (∀ i, i < c → h i < N ∧ f (h i) = true) → (∀ i j, i < c → j < c → h i = h j → i = j) → (∀ p, p < N → f p = true → ∃ i, i < c ∧ h i = p) → cnt f N = c
  | 0, f, _, _, _, h3 => cnt_0 (fun i hi => by
      cases e : f i with
      | false => rfl
      | true => obtain ⟨j, hj, -⟩ := h3 i hi e; omega)
  | c + 1, f, h, h1, h2, h3 => by
    obtain ⟨a1, a2⟩ := h1 c (by omega)
    rw [cnt_off a2 a1]
    rw [cnt_all N c (fun x => if x = h c then false else f x) h (fun i hi => ⟨(h1 i (by omega)).1, by
      show (if h i = h c then false else f (h i)) = true
      rw [if_neg (fun e => by have := h2 i c (by omega) (by omega) e; omega)]
      exact (h1 i (by omega)).2⟩) (fun i j hi hj e => h2 i j (by omega) (by omega) e) (fun p hp e => by
      by_cases q : p = h c
      · simp [q] at e
      · have e' : f p = true := by simpa [q] using e
        obtain ⟨i, hi, rfl⟩ := h3 p hp e'
        exact ⟨i, by rcases Nat.lt_or_ge i c with z | z; exact z; exact absurd (show h i = h c by rw [show i = c by omega]) q, rfl⟩)]
/-- a routine can be made -/
def Mk (mem : Nat → Nat) (s : Nat) : Prop := (∀ p, Rch mem s p → mem p ≤ 12) ∧ cnt (rb mem s) 256 ≤ 24 ∧ ∀ p, Rch mem s p → hop (mem p) = true → ¬ Rch mem s ((p + 1) % 256)
/-! the heads of a member -/
def HS (m c : Nat) (h : Nat → Nat) (T : St) : Prop := T.1 m 3 = nI c ∧ c ≤ 24 ∧ (∀ i, i < c → h i < 256 ∧ T.1 (m + 1) i = nI (h i)) ∧ ∀ i j, i < c → j < c → h i = h j → i = j
/-- nothing but a member has changed -/
def Fr (m : Nat) (T T' : St) : Prop := (∀ j, j < m ∨ m + 3 < j → T'.1 j = T.1 j) ∧ T'.2 = T.2
theorem Fr.rf {m : Nat} {T : St} : Fr m T T := ⟨fun _ _ => rfl, rfl⟩
theorem Fr.tr {m : Nat} {T T' T'' : St} (h : Fr m T T') (h2 : Fr m T' T'') : Fr m T T'' := ⟨fun j hj => (h2.1 j hj).trans (h.1 j hj), h2.2.trans h.2⟩
theorem Fr.sv {m o k : Nat} {T : St} {v : Int32} (h1 : m ≤ o) (h2 : o ≤ m + 3) : Fr m T (sv T o k v) := ⟨fun j hj => sv_ne (by omega), rfl⟩
theorem s_addHead {m c p : Nat} {h : Nat → Nat} {x : Int32} {T : St} {post : Int32 → St → Prop} (hx : x &&& 255 = nI p) (hp : p < 256) (hH : HS m c h T)
    (h1 : ∀ (c' : Nat) (h' : Nat → Nat) (T' : St), HS m c' h' T' → Fr m T T' → c ≤ c' → (∀ i, i < c → h' i = h i) → (∃ i, i < c' ∧ h' i = p) → (∀ i, i < c' → i < c ∨ h' i = p) → post 1 T') (h0 : c = 24 → (∀ i, i < c → h i ≠ p) → post 0 T) : wp_X3_addHead m x T post := by
  obtain ⟨e3, hc, ha, hj⟩ := hH
  unfold wp_X3_addHead
  rw [hx]
  refine s_indexOf e3 hc (fun i hi he _ => ⟨fun q => absurd q (nI_pos (by omega)), fun _ => ?_⟩) (fun hn => ⟨fun _ => ?_, fun q => absurd (by decide) q⟩)
  · refine h1 c h T ⟨e3, hc, ha, hj⟩ Fr.rf (Nat.le_refl _) (fun _ _ => rfl) ⟨i, hi, ?_⟩ (fun i hi => Or.inl hi)
    have := (ha i hi).2.symm.trans he
    exact (nIe (by have := (ha i hi).1; omega) (by omega)).mp this
  · have hne : ∀ i, i < c → h i ≠ p := fun i hi e => hn i hi (by rw [(ha i hi).2, e])
    rw [e3, n_24, ltN (by omega) (by omega)]
    refine ⟨fun q => ⟨vin q (by omega), ?_⟩, fun q => h0 (by omega) hne⟩
    rintro T6 rfl
    rw [cl (by omega)]
    refine h1 (c + 1) (fun i => if i = c then p else h i) _ ⟨?_, by omega, fun i hi => ?_, fun i j hi hj' e => ?_⟩ ((Fr.sv (by omega) (by omega)).tr (Fr.sv (by omega) (by omega))) (by omega) (fun i hi => if_neg (by omega)) ⟨c, by omega, if_pos rfl⟩ (fun i hi => ?_)
    · rw [sv_k, sv_ne (by omega), e3, nI_1]
    · rw [sv_ne (by omega)]
      by_cases hic : i = c
      · subst hic
        refine ⟨by simpa using hp, ?_⟩
        rw [sv_k]; simp
      · rw [sv_j hic]
        simp only [if_neg hic]
        exact ha i (by omega)
    · simp only at e
      by_cases hic : i = c <;> by_cases hjc : j = c
      · omega
      · rw [if_pos hic, if_neg hjc] at e; exact absurd e.symm (hne j (by omega))
      · rw [if_neg hic, if_pos hjc] at e; exact absurd e (hne i (by omega))
      · rw [if_neg hic, if_neg hjc] at e; exact hj i j (by omega) (by omega) e
    · by_cases hic : i = c
      · exact Or.inr (if_pos hic)
      · exact Or.inl (by omega)
