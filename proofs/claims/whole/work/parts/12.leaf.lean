/-! PURE: kinds of acts; the leaf methods -/
def hop (k : Nat) : Bool := k == 1 || k == 2 || (decide (4 ≤ k) && decide (k ≤ 9))
def ln (k : Nat) : Nat := if hop k then 2 else 1
def cge (k : Nat) : Bool := k == 6 || k == 7 || k == 8
theorem hop_iff {k : Nat} : hop k = true ↔ k = 1 ∨ k = 2 ∨ (4 ≤ k ∧ k ≤ 9) := by simp [hop, or_assoc]
theorem cge_iff {k : Nat} : cge k = true ↔ k = 6 ∨ k = 7 ∨ k = 8 := by simp [cge, or_assoc]
theorem cge_hop {k : Nat} (h : cge k = true) : hop k = true := by rw [cge_iff] at h; rw [hop_iff]; omega
theorem nIe {a b : Nat} (ha : a < 2 ^ 31) (hb : b < 2 ^ 31) : nI a = nI b ↔ a = b := nI_eq ha hb
theorem s_hasOperand {k : Nat} {T : St} {post : Int32 → St → Prop} (hk : k < 256) (h1 : hop k = true → post 1 T) (h0 : hop k = false → post 0 T) : wp_X6_hasOperand (nI k) T post := by
  have e : hop k = false ↔ ¬ (k = 1 ∨ k = 2 ∨ (4 ≤ k ∧ k ≤ 9)) := by rw [← hop_iff]; simp
  unfold wp_X6_hasOperand
  refine ⟨fun h => h1 ?_, fun a => ⟨fun h => h1 ?_, fun b => ⟨fun h => h0 ?_, fun c => ⟨fun h => h0 ?_, fun d => h1 ?_⟩⟩⟩⟩
  · rw [n_1, nIe (by omega) (by omega)] at h; rw [hop_iff]; omega
  · rw [n_2, nIe (by omega) (by omega)] at h; rw [hop_iff]; omega
  · rw [show (4 : Int32) = nI 4 from rfl, ltN (by omega) (by omega)] at h; rw [n_1, nIe (by omega) (by omega)] at a; rw [n_2, nIe (by omega) (by omega)] at b; rw [e]; omega
  · rw [n_9, ltN (by omega) (by omega)] at h; rw [e]; omega
  · rw [show (4 : Int32) = nI 4 from rfl, ltN (by omega) (by omega)] at c; rw [n_9, ltN (by omega) (by omega)] at d; rw [hop_iff]; omega
theorem s_isLong {k : Nat} {T : St} {post : Int32 → St → Prop} (hk : k < 256) (h1 : hop k = true → post 1 T) (h0 : hop k = false → post 0 T) : wp_X7_isLong (nI k) T post := s_hasOperand (T := T) (post := post) hk h1 h0
theorem s_lengthOf {k : Nat} {T : St} {post : Int32 → St → Prop} (hk : k < 256) (h : post (nI (ln k)) T) : wp_X6_lengthOf (nI k) T post := by
  unfold wp_X6_lengthOf
  refine s_hasOperand hk (fun h1 => ⟨fun q => absurd q (by decide), fun _ => ?_⟩) (fun h1 => ⟨fun _ => ?_, fun q => absurd rfl q⟩)
  · rw [show ln k = 2 by simp [ln, h1]] at h; exact h
  · rw [show ln k = 1 by simp [ln, h1]] at h; exact h
theorem s_isKind {k : Nat} {T : St} {post : Int32 → St → Prop} (hk : k < 256) (h1 : k ≤ 12 → post 1 T) (h0 : 12 < k → post 0 T) : wp_X6_isKind (nI k) T post := by
  unfold wp_X6_isKind
  refine ⟨fun h => absurd h (nI_pos (by omega)), fun _ => ⟨fun h => h0 ?_, fun h => h1 ?_⟩⟩
  · rw [n_12, ltN (by omega) (by omega)] at h; exact h
  · rw [n_12, ltN (by omega) (by omega)] at h; omega
theorem s_canGo {k : Nat} {T : St} {post : Int32 → St → Prop} (hk : k < 256) (h1 : cge k = true → post 1 T) (h0 : cge k = false → post 0 T) : wp_X6_canGoElsewhere (nI k) T post := by
  have e : cge k = false ↔ ¬ (k = 6 ∨ k = 7 ∨ k = 8) := by rw [← cge_iff]; simp
  unfold wp_X6_canGoElsewhere
  rw [show (6 : Int32) = nI 6 from rfl, show (7 : Int32) = nI 7 from rfl, n_8, nIe (by omega) (by omega), nIe (by omega) (by omega), nIe (by omega) (by omega)]
  refine ⟨fun h => h1 (by rw [cge_iff]; omega), fun a => ⟨fun h => h1 (by rw [cge_iff]; omega), fun b => ⟨fun h => h0 (by rw [e]; omega), fun h => h1 (by rw [cge_iff]; omega)⟩⟩⟩
theorem s_in {a lo hi : Int32} {T : St} {post : Int32 → St → Prop} (h1 : lo ≤ a → a ≤ hi → post 1 T) (h0 : (a < lo ∨ hi < a) → post 0 T) : wp_X7_in a lo hi T post := by
  unfold wp_X7_in
  exact ⟨fun h => h0 (Or.inl h), fun h => ⟨fun q => h0 (Or.inr q), fun q => h1 (Int32.not_lt.mp h) (Int32.not_lt.mp q)⟩⟩
/-- Arrays.fill -/
theorem s_fill {q n : Nat} {v : Int32} {T : St} {post : St → Prop} (hn : n < 2 ^ 31) (h : post (sa T q (fun j => if j < n then v else T.1 q j))) : wp_J7_fill_53178 q n v T post := by
  unfold wp_J7_fill_53178
  refine LW_cnt n (fun i T' => T' = sa T q (fun j => if j < i then v else T.1 q j)) (sa_id (by simp)).symm ?_
  rintro i T' hi rfl k hk
  unfold wb_J7_fill_53178_5
  rw [show Int32.ofNat n = nI n from rfl, leN (by omega) (by omega)]
  refine ⟨fun q => ?_, fun q => ⟨vin (by omega) (by omega), ?_⟩⟩
  · rw [show n = i by omega] at h; exact h
  · refine hk _ (by omega) ?_
    rw [cl (by omega), sv_sa]
    congr 1
    funext j
    unfold upd
    by_cases h1 : j = i
    · subst h1; simp
    · by_cases h2 : j < i
      · simp [h1, h2, Nat.lt_succ_of_lt h2]
      · simp [h1, h2, show ¬ j < i + 1 by omega]
/-- Member.indexOf: the first place of h among the heads, or -1 -/
theorem s_indexOf {m c : Nat} {h : Int32} {T : St} {post : Int32 → St → Prop} (hc : T.1 m 3 = nI c) (hc24 : c ≤ 24) (h1 : ∀ i, i < c → T.1 (m + 1) i = h → (∀ j, j < i → T.1 (m + 1) j ≠ h) → post (nI i) T) (h0 : (∀ i, i < c → T.1 (m + 1) i ≠ h) → post (-1) T) : wp_X3_indexOf m h T post := by
  unfold wp_X3_indexOf
  refine LW_cnt c (fun i T' => T' = T ∧ ∀ j, j < i → T.1 (m + 1) j ≠ h) ⟨rfl, fun j hj => absurd hj (Nat.not_lt_zero _)⟩ ?_
  rintro i T' hi ⟨rfl, hJ⟩ k hk
  unfold wb_X3_indexOf_2
  rw [hc, leN (by omega) (by omega)]
  refine ⟨fun q => h0 (by rw [show c = i by omega]; exact hJ), fun q => ⟨vin (by omega) (by omega), ?_⟩⟩
  rw [cl (by omega)]
  refine ⟨fun e => hk _ (by omega) ⟨rfl, fun j hj => ?_⟩, fun e => h1 i (by omega) e hJ⟩
  by_cases hji : j = i
  · subst hji; exact e
  · exact hJ j (by omega)
theorem s_hasLive {o : Nat} {r : Int32} {T : St} {post : Int32 → St → Prop} (h0 : (T.1 o 2 >>> (r &&& 31)) &&& 1 = 0 → post 0 T) (h1 : ¬ (T.1 o 2 >>> (r &&& 31)) &&& 1 = 0 → post 1 T) : wp_X4_hasLive o r T post := ⟨h0, h1⟩
/-- System.arraycopy of a whole row -/
theorem cpy256 {f g : Nat → Int32} {j : Nat} (h : j < 256) : va_cpy f g 0 0 256 j = f j := by rw [pk_cpy_in (by omega) (by omega)]; simp
