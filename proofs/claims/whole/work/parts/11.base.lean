/-! PURE: the state's places, loops, numbers -/
theorem sa1 {T : St} {o i : Nat} {f : Nat → Int32} : (sa T o f).1 i = if i = o then f else T.1 i := rfl
theorem sa_eq {T : St} {o : Nat} {f : Nat → Int32} : (sa T o f).1 o = f := if_pos rfl
theorem sa_ne {T : St} {o i : Nat} {f : Nat → Int32} (h : i ≠ o) : (sa T o f).1 i = T.1 i := if_neg h
theorem sa2 {T : St} {o : Nat} {f : Nat → Int32} : (sa T o f).2 = T.2 := rfl
theorem sv1 {T : St} {o k i : Nat} {v : Int32} : (sv T o k v).1 i = if i = o then upd (T.1 o) k v else T.1 i := rfl
theorem sv_eq {T : St} {o k : Nat} {v : Int32} : (sv T o k v).1 o = upd (T.1 o) k v := if_pos rfl
theorem sv_ne {T : St} {o k i : Nat} {v : Int32} (h : i ≠ o) : (sv T o k v).1 i = T.1 i := if_neg h
theorem sv2 {T : St} {o k : Nat} {v : Int32} : (sv T o k v).2 = T.2 := rfl
theorem sv_k {T : St} {o k : Nat} {v : Int32} : (sv T o k v).1 o k = v := by rw [sv_eq]; exact if_pos rfl
theorem sv_j {T : St} {o k j : Nat} {v : Int32} (h : j ≠ k) : (sv T o k v).1 o j = T.1 o j := by rw [sv_eq]; exact if_neg h
theorem upd_k {f : Nat → Int32} {k : Nat} {v : Int32} : upd f k v k = v := if_pos rfl
theorem upd_j {f : Nat → Int32} {k j : Nat} {v : Int32} (h : j ≠ k) : upd f k v j = f j := if_neg h
theorem sl1 {T : St} {o k : Nat} {v : Int64} : (sl T o k v).1 = T.1 := rfl
theorem sl_k {T : St} {o k : Nat} {v : Int64} : (sl T o k v).2 o k = v := by simp [sl, vp_updL]
theorem sl_j {T : St} {o k j : Nat} {v : Int64} (h : j ≠ k) : (sl T o k v).2 o j = T.2 o j := by simp [sl, vp_updL, h]
theorem sa_sa {T : St} {o : Nat} {f g : Nat → Int32} : sa (sa T o f) o g = sa T o g := by
  unfold sa
  simp only [Prod.mk.injEq, and_true]
  funext i
  by_cases h : i = o <;> simp [h]
theorem sv_sa {T : St} {o k : Nat} {f : Nat → Int32} {v : Int32} : sv (sa T o f) o k v = sa T o (upd f k v) := by
  unfold sv
  rw [sa_eq, sa_sa]
theorem sa_self {T : St} {o : Nat} : sa T o (T.1 o) = T := by
  unfold sa
  refine Prod.ext ?_ rfl
  funext i
  by_cases h : i = o
  · subst h; simp
  · simp [h]
theorem sa_comm {T : St} {a b : Nat} {f g : Nat → Int32} (h : a ≠ b) : sa (sa T a f) b g = sa (sa T b g) a f := by
  unfold sa
  refine Prod.ext ?_ rfl
  funext i
  by_cases h1 : i = a
  · subst h1; simp [h]
  · simp [h1]
theorem sa_id {T : St} {o : Nat} {f : Nat → Int32} (h : f = T.1 o) : sa T o f = T := by rw [h, sa_self]
noncomputable def lw_mu {V : Type} (n : Nat) (J : Nat → V → St → Prop) (v : V) (T : St) : Nat :=
  @dite Nat (∃ d, ∃ i, i ≤ n ∧ J i v T ∧ n - i = d) (Classical.propDecidable _) (fun h => Classical.choose (pk_least _ h)) (fun _ => 0)
theorem lw_mu_spec {V : Type} {n : Nat} {J : Nat → V → St → Prop} {v : V} {T : St} (h : ∃ d, ∃ i, i ≤ n ∧ J i v T ∧ n - i = d) : (∃ i, i ≤ n ∧ J i v T ∧ n - i = lw_mu n J v T) ∧ ∀ j, j < lw_mu n J v T → ¬ ∃ i, i ≤ n ∧ J i v T ∧ n - i = j := by
  have e : lw_mu n J v T = Classical.choose (pk_least _ h) := by unfold lw_mu; exact dif_pos h
  rw [e]
  exact Classical.choose_spec (pk_least _ h)
/-- a loop by a counter that is no part of the program: after i rounds J i -/
theorem LW_gen {V : Type} {F : (V → St → Prop) → V → St → Prop} {v0 : V} {T0 : St} (n : Nat) (J : Nat → V → St → Prop) (h0 : J 0 v0 T0)
    (hs : ∀ (i : Nat) (v : V) (T : St), i ≤ n → J i v T → ∀ k : V → St → Prop, (∀ (v' : V) (T' : St), i < n → J (i + 1) v' T' → k v' T') → F k v T) : LW F v0 T0 := by
  refine ⟨fun v T => ∃ i, i ≤ n ∧ J i v T, lw_mu n J, ⟨0, Nat.zero_le _, h0⟩, fun v T hI => ?_⟩
  obtain ⟨i0, hi0, hJ0⟩ := hI
  obtain ⟨⟨i, hi, hJ, hd⟩, -⟩ := lw_mu_spec (n := n) (J := J) (v := v) (T := T) ⟨n - i0, i0, hi0, hJ0, rfl⟩
  refine hs i v T hi hJ _ (fun v' T' hlt hJ' => ⟨⟨i + 1, hlt, hJ'⟩, ?_⟩)
  obtain ⟨-, hm⟩ := lw_mu_spec (n := n) (J := J) (v := v') (T := T') ⟨n - (i + 1), i + 1, hlt, hJ', rfl⟩
  rcases Nat.lt_or_ge (lw_mu n J v' T') (lw_mu n J v T) with q | q
  · exact q
  · exact absurd ⟨i + 1, hlt, hJ', rfl⟩ (hm (n - (i + 1)) (by omega))
/-- the simplest: a counter from 0 to n -/
theorem LW_cnt {F : (Int32 → St → Prop) → Int32 → St → Prop} {T0 : St} (n : Nat) (J : Nat → St → Prop) (h0 : J 0 T0)
    (hs : ∀ (i : Nat) (T : St), i ≤ n → J i T → ∀ k : Int32 → St → Prop, (∀ T' : St, i < n → J (i + 1) T' → k (nI i + 1) T') → F k (nI i) T) : LW F 0 T0 := by
  refine LW_gen n (fun i v T => v = nI i ∧ J i T) ⟨nI_0.symm, h0⟩ ?_
  rintro i v T hi ⟨rfl, hJ⟩ k hk
  exact hs i T hi hJ k (fun T' h1 h2 => hk _ _ h1 ⟨nI_1 i, h2⟩)
/-- with an accumulator -/
theorem LW_acc {F : (Int32 × Int32 → St → Prop) → Int32 × Int32 → St → Prop} {x0 : Int32} {T0 : St} (n : Nat) (J : Nat → Int32 → St → Prop) (h0 : J 0 x0 T0)
    (hs : ∀ (i : Nat) (x : Int32) (T : St), i ≤ n → J i x T → ∀ k : Int32 × Int32 → St → Prop, (∀ (x' : Int32) (T' : St), i < n → J (i + 1) x' T' → k (x', nI i + 1) T') → F k (x, nI i) T) : LW F (x0, 0) T0 := by
  refine LW_gen n (fun i v T => v.2 = nI i ∧ J i v.1 T) ⟨nI_0.symm, h0⟩ ?_
  rintro i ⟨x, y⟩ T hi ⟨h1, hJ⟩ k hk
  have h1 : y = nI i := h1
  subst h1
  exact hs i x T hi hJ k (fun x' T' h1 h2 => hk _ _ h1 ⟨nI_1 i, h2⟩)
/-! numbers -/
theorem vin {i n : Nat} (h : i < n) (hn : n < 2 ^ 31) : vp_in (nI i) n := vp_in_nI h hn
theorem cl {i : Nat} (h : i < 2 ^ 31) : (nI i).toNatClampNeg = i := nI_clamp h
theorem leN {a b : Nat} (ha : a < 2 ^ 31) (hb : b < 2 ^ 31) : nI a ≤ nI b ↔ a ≤ b := nI_leI ha hb
theorem ltN {a b : Nat} (ha : a < 2 ^ 31) (hb : b < 2 ^ 31) : nI a < nI b ↔ a < b := nI_ltI ha hb
theorem nlit (n : Nat) : (OfNat.ofNat n : Int32) = nI n := rfl
theorem n_0 : (0 : Int32) = nI 0 := rfl
theorem n_1 : (1 : Int32) = nI 1 := rfl
theorem n_2 : (2 : Int32) = nI 2 := rfl
theorem n_3 : (3 : Int32) = nI 3 := rfl
theorem n_8 : (8 : Int32) = nI 8 := rfl
theorem n_9 : (9 : Int32) = nI 9 := rfl
theorem n_10 : (10 : Int32) = nI 10 := rfl
theorem n_12 : (12 : Int32) = nI 12 := rfl
theorem n_16 : (16 : Int32) = nI 16 := rfl
theorem n_24 : (24 : Int32) = nI 24 := rfl
theorem n_255 : (255 : Int32) = nI 255 := rfl
theorem n_256 : (256 : Int32) = nI 256 := rfl
theorem n_1792 : (1792 : Int32) = nI 1792 := rfl
/-- an int in a range is a number -/
theorem rng {x : Int32} {m : Nat} (hm : m < 2 ^ 31) (h0 : ¬ x < 0) (h1 : x ≤ nI m) : ∃ j, j ≤ m ∧ x = nI j := by
  obtain ⟨j, hj, rfl⟩ := nI_of h0
  exact ⟨j, (leN hj hm).mp h1, rfl⟩
/-- x &&& 255 -/
theorem a255 {n : Nat} (h : n < 2 ^ 32) : nI n &&& 255 = nI (n % 256) := pk_andN h 8 rfl
theorem a255x (x : Int32) : ∃ j, j < 256 ∧ x &&& 255 = nI j := by
  obtain ⟨j, h1, h2⟩ := pk_andE x (m := 255) 8 rfl
  exact ⟨j, h1, h2⟩
theorem narZ0 : vp_nar .boolean 0 = 0 := by decide
theorem narZ1 : vp_nar .boolean 1 = 1 := by decide
def B01 (x : Int32) : Prop := x = 0 ∨ x = 1
theorem narB {x : Int32} (h : B01 x) : vp_nar .boolean x = x := by rcases h with rfl | rfl <;> decide
theorem narN {x : Int32} (h : B01 x) : narrow .boolean (.int x) = .int x := by rcases h with rfl | rfl <;> rfl
theorem B01.ne {x : Int32} (h : B01 x) : ¬ x = 0 ↔ x = 1 := by
  rcases h with rfl | rfl
  · exact ⟨fun h => absurd rfl h, fun h => absurd h (by decide)⟩
  · exact ⟨fun _ => rfl, fun _ => by decide⟩
