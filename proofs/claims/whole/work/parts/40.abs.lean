/-! one run, told apart from class and model -/
abbrev Ab := Int32 × Int32 × Nat × Nat × Nat × (Nat → Nat) × (Nat → Nat) × (Nat → Nat) × Int32 × Nat
def aA (s : Ab) : Int32 := s.1
def aB (s : Ab) : Int32 := s.2.1
/-- the place -/
def aP (s : Ab) : Nat := s.2.2.1
/-- the depth -/
def aD (s : Ab) : Nat := s.2.2.2.1
def aX (s : Ab) : Nat := s.2.2.2.2.1
/-- within which routine, by depth -/
def aW (s : Ab) : Nat → Nat := s.2.2.2.2.2.1
def aR (s : Ab) : Nat → Nat := s.2.2.2.2.2.2.1
def aM (s : Ab) : Nat → Nat := s.2.2.2.2.2.2.2.1
def aF (s : Ab) : Int32 := s.2.2.2.2.2.2.2.2.1
def aC (s : Ab) : Nat := s.2.2.2.2.2.2.2.2.2
def kd (s : Ab) : Nat := aM s (aP s)
def opd (s : Ab) : Nat := aM s ((aP s + 1) % 256)
def sx (b : Nat) : Int32 := (nI b).toInt8.toInt32
def lo8 (x : Int32) : Nat := (x &&& 255).toNatClampNeg
theorem lo8_ok (x : Int32) : lo8 x < 256 ∧ x &&& 255 = nI (lo8 x) := by
  obtain ⟨j, h1, h2⟩ := a255x x
  unfold lo8
  rw [h2, cl (by omega)]
  exact ⟨h1, rfl⟩
def fA (s : Ab) : Int32 := if kd s = 1 then sx (opd s) else if kd s = 2 then aA s + sx (opd s) else if kd s = 3 then aB s else if kd s = 4 then nI (aM s (opd s)) else if kd s = 10 then nI (aM s (lo8 (aB s))) else if kd s = 12 then aA s * aB s else aA s
def fB (s : Ab) : Int32 := if kd s = 3 then aA s else if kd s = 8 then aB s - 1 else aB s
def fP (s : Ab) : Nat := if kd s = 6 ∨ (kd s = 7 ∧ fA s = 0) ∨ (kd s = 8 ∧ fB s ≠ 0) then ot (aM s) (aP s) else nx (aM s) (aP s)
/-- the byte that a step writes; where it writes none, one that is there -/
def awr (s : Ab) : Nat × Nat := if aF s = 0 ∧ kd s = 5 then (opd s, lo8 (aA s)) else if aF s = 0 ∧ kd s = 11 then (lo8 (aB s), lo8 (aA s)) else (0, aM s 0)
def updN (f : Nat → Nat) (k v : Nat) : Nat → Nat := fun j => if j = k then v else f j
def nxt (n : Nat) (bg : Nat → Nat) (s : Ab) : Ab :=
  if ¬ aF s = 0 then s
  else if 12 < kd s then (aA s, aB s, aP s, aD s, aX s, aW s, aR s, aM s, -1, aC s)
  else if kd s = 0 then (if aD s = 1 then (aA s, aB s, aP s, aD s, aX s, aW s, aR s, aM s, 1, aC s + 1) else (aA s, aB s, aR s (aD s - 1), aD s - 1, aX s, aW s, aR s, aM s, 0, aC s + 1))
  else if kd s = 9 then (if aD s = 6 then (aA s, aB s, aP s, aD s, aX s, aW s, aR s, aM s, -3, aC s + 1) else if opd s < n then (aA s, aB s, bg (opd s), aD s + 1, (if aX s < aD s + 1 then aD s + 1 else aX s), updN (aW s) (aD s) (opd s), updN (aR s) (aD s) (nx (aM s) (aP s)), aM s, 0, aC s + 1) else (aA s, aB s, aP s, aD s, aX s, aW s, aR s, aM s, -2, aC s + 1))
  else (fA s, fB s, fP s, aD s, aX s, aW s, aR s, mu (aM s) (awr s).1 (awr s).2, 0, aC s + 1)
/-- what holds of it -/
def WF (n : Nat) (s : Ab) : Prop := aP s < 256 ∧ (1 ≤ aD s ∧ aD s ≤ 6) ∧ (aD s ≤ aX s ∧ aX s ≤ 6) ∧ (∀ j, j < aD s → aW s j < n) ∧ (∀ j, j < aD s → aR s j < 256) ∧ (∀ p, p < 256 → aM s p < 256) ∧ (aF s = 0 ∨ aF s = 1 ∨ aF s = -1 ∨ aF s = -2 ∨ aF s = -3)
theorem mu_same {mem : Nat → Nat} {p : Nat} : mu mem p (mem p) = mem := by
  funext q
  unfold mu
  by_cases e : q = p
  · rw [if_pos e, e]
  · rw [if_neg e]
theorem awr_no {s : Ab} (h : aF s = 0 → kd s ≠ 5 ∧ kd s ≠ 11) : awr s = (0, aM s 0) := by
  unfold awr
  rw [if_neg (fun z => (h z.1).1 z.2), if_neg (fun z => (h z.1).2 z.2)]
theorem nxt_M {n : Nat} {bg : Nat → Nat} {s : Ab} : aM (nxt n bg s) = mu (aM s) (awr s).1 (awr s).2 := by
  have same : (aF s = 0 → kd s ≠ 5 ∧ kd s ≠ 11) → aM s = mu (aM s) (awr s).1 (awr s).2 := fun h => by rw [awr_no h]; exact mu_same.symm
  unfold nxt
  by_cases h0 : aF s = 0
  · rw [if_neg (fun z => z h0)]
    by_cases h1 : 12 < kd s
    · rw [if_pos h1]; exact same (fun _ => by omega)
    · rw [if_neg h1]
      by_cases h2 : kd s = 0
      · rw [if_pos h2]
        by_cases h3 : aD s = 1
        · rw [if_pos h3]; exact same (fun _ => by omega)
        · rw [if_neg h3]; exact same (fun _ => by omega)
      · rw [if_neg h2]
        by_cases h3 : kd s = 9
        · rw [if_pos h3]
          by_cases h4 : aD s = 6
          · rw [if_pos h4]; exact same (fun _ => by omega)
          · rw [if_neg h4]
            by_cases h5 : opd s < n
            · rw [if_pos h5]; exact same (fun _ => by omega)
            · rw [if_neg h5]; exact same (fun _ => by omega)
        · rw [if_neg h3]; rfl
  · rw [if_pos h0]; exact same (fun z => absurd z h0)
theorem awr_lt {n : Nat} {s : Ab} (h : WF n s) : (awr s).1 < 256 ∧ (awr s).2 < 256 := by
  obtain ⟨h1, -, -, -, -, h6, -⟩ := h
  unfold awr
  by_cases a : aF s = 0 ∧ kd s = 5
  · rw [if_pos a]; exact ⟨h6 _ (Nat.mod_lt _ (by omega)), (lo8_ok _).1⟩
  · rw [if_neg a]
    by_cases b : aF s = 0 ∧ kd s = 11
    · rw [if_pos b]; exact ⟨(lo8_ok _).1, (lo8_ok _).1⟩
    · rw [if_neg b]; exact ⟨by show 0 < 256; omega, h6 0 (by omega)⟩
theorem fP_lt (s : Ab) : fP s < 256 := by
  unfold fP
  split
  · exact ot_lt _ _
  · exact nx_lt _ _
/-- the ways of a step -/
theorem nxt_end {n : Nat} {bg : Nat → Nat} {s : Ab} (h : ¬ aF s = 0) : nxt n bg s = s := if_pos h
theorem nxt_bad {n : Nat} {bg : Nat → Nat} {s : Ab} (h : aF s = 0) (h1 : 12 < kd s) : nxt n bg s = (aA s, aB s, aP s, aD s, aX s, aW s, aR s, aM s, -1, aC s) := by
  unfold nxt; rw [if_neg (fun z => z h), if_pos h1]
theorem nxt_over {n : Nat} {bg : Nat → Nat} {s : Ab} (h : aF s = 0) (h1 : kd s = 0) (h2 : aD s = 1) : nxt n bg s = (aA s, aB s, aP s, aD s, aX s, aW s, aR s, aM s, 1, aC s + 1) := by
  unfold nxt; rw [if_neg (fun z => z h), if_neg (by omega), if_pos h1, if_pos h2]
theorem nxt_back {n : Nat} {bg : Nat → Nat} {s : Ab} (h : aF s = 0) (h1 : kd s = 0) (h2 : aD s ≠ 1) : nxt n bg s = (aA s, aB s, aR s (aD s - 1), aD s - 1, aX s, aW s, aR s, aM s, 0, aC s + 1) := by
  unfold nxt; rw [if_neg (fun z => z h), if_neg (by omega), if_pos h1, if_neg h2]
theorem nxt_deep {n : Nat} {bg : Nat → Nat} {s : Ab} (h : aF s = 0) (h1 : kd s = 9) (h2 : aD s = 6) : nxt n bg s = (aA s, aB s, aP s, aD s, aX s, aW s, aR s, aM s, -3, aC s + 1) := by
  unfold nxt; rw [if_neg (fun z => z h), if_neg (by omega), if_neg (by omega), if_pos h1, if_pos h2]
theorem nxt_call {n : Nat} {bg : Nat → Nat} {s : Ab} (h : aF s = 0) (h1 : kd s = 9) (h2 : aD s ≠ 6) (h3 : opd s < n) : nxt n bg s = (aA s, aB s, bg (opd s), aD s + 1, (if aX s < aD s + 1 then aD s + 1 else aX s), updN (aW s) (aD s) (opd s), updN (aR s) (aD s) (nx (aM s) (aP s)), aM s, 0, aC s + 1) := by
  unfold nxt; rw [if_neg (fun z => z h), if_neg (by omega), if_neg (by omega), if_pos h1, if_neg h2, if_pos h3]
theorem nxt_none {n : Nat} {bg : Nat → Nat} {s : Ab} (h : aF s = 0) (h1 : kd s = 9) (h2 : aD s ≠ 6) (h3 : ¬ opd s < n) : nxt n bg s = (aA s, aB s, aP s, aD s, aX s, aW s, aR s, aM s, -2, aC s + 1) := by
  unfold nxt; rw [if_neg (fun z => z h), if_neg (by omega), if_neg (by omega), if_pos h1, if_neg h2, if_neg h3]
theorem nxt_act {n : Nat} {bg : Nat → Nat} {s : Ab} (h : aF s = 0) (h1 : ¬ 12 < kd s) (h2 : kd s ≠ 0) (h3 : kd s ≠ 9) : nxt n bg s = (fA s, fB s, fP s, aD s, aX s, aW s, aR s, mu (aM s) (awr s).1 (awr s).2, 0, aC s + 1) := by
  unfold nxt; rw [if_neg (fun z => z h), if_neg h1, if_neg h2, if_neg h3]
theorem wf_nxt {n : Nat} {bg : Nat → Nat} {s : Ab} (h : WF n s) (hb : ∀ r, r < n → bg r < 256) : WF n (nxt n bg s) := by
  have hw := awr_lt h
  obtain ⟨h1, h2, h3, h4, h5, h6, h7⟩ := id h
  by_cases c0 : ¬ aF s = 0
  · rw [nxt_end c0]; exact h
  have c0 : aF s = 0 := Classical.not_not.mp c0
  by_cases c1 : 12 < kd s
  · rw [nxt_bad c0 c1]; exact ⟨h1, h2, h3, h4, h5, h6, Or.inr (Or.inr (Or.inl rfl))⟩
  by_cases c2 : kd s = 0
  · by_cases c3 : aD s = 1
    · rw [nxt_over c0 c2 c3]; exact ⟨h1, h2, h3, h4, h5, h6, Or.inr (Or.inl rfl)⟩
    · rw [nxt_back c0 c2 c3]
      exact ⟨h5 _ (by omega), (show 1 ≤ aD s - 1 ∧ aD s - 1 ≤ 6 by omega), (show aD s - 1 ≤ aX s ∧ aX s ≤ 6 by omega), fun j hj => h4 j (by have : j < aD s - 1 := hj; omega), fun j hj => h5 j (by have : j < aD s - 1 := hj; omega), h6, Or.inl rfl⟩
  by_cases c3 : kd s = 9
  · by_cases c4 : aD s = 6
    · rw [nxt_deep c0 c3 c4]; exact ⟨h1, h2, h3, h4, h5, h6, Or.inr (Or.inr (Or.inr (Or.inr rfl)))⟩
    · by_cases c5 : opd s < n
      · rw [nxt_call c0 c3 c4 c5]
        refine ⟨hb _ c5, (show 1 ≤ aD s + 1 ∧ aD s + 1 ≤ 6 by omega), ?_, fun j hj => ?_, fun j hj => ?_, h6, Or.inl rfl⟩
        · show aD s + 1 ≤ (if aX s < aD s + 1 then aD s + 1 else aX s) ∧ (if aX s < aD s + 1 then aD s + 1 else aX s) ≤ 6
          split <;> omega
        · have hj : j < aD s + 1 := hj
          show updN (aW s) (aD s) (opd s) j < n
          unfold updN
          by_cases e : j = aD s
          · rw [if_pos e]; exact c5
          · rw [if_neg e]; exact h4 j (by omega)
        · have hj : j < aD s + 1 := hj
          show updN (aR s) (aD s) (nx (aM s) (aP s)) j < 256
          unfold updN
          by_cases e : j = aD s
          · rw [if_pos e]; exact nx_lt _ _
          · rw [if_neg e]; exact h5 j (by omega)
      · rw [nxt_none c0 c3 c4 c5]; exact ⟨h1, h2, h3, h4, h5, h6, Or.inr (Or.inr (Or.inr (Or.inl rfl)))⟩
  · rw [nxt_act c0 c1 c2 c3]
    refine ⟨fP_lt s, h2, h3, h4, h5, fun p hp => ?_, Or.inl rfl⟩
    show mu (aM s) (awr s).1 (awr s).2 p < 256
    unfold mu
    by_cases e : p = (awr s).1
    · rw [if_pos e]; exact hw.2
    · rw [if_neg e]; exact h6 p hp
def its (n : Nat) (bg : Nat → Nat) (s : Ab) : Nat → Ab
  | 0 => s
  | k + 1 => nxt n bg (its n bg s k)
theorem wf_its {n : Nat} {bg : Nat → Nat} {s : Ab} (h : WF n s) (hb : ∀ r, r < n → bg r < 256) : ∀ k, WF n (its n bg s k)
  | 0 => h
  | k + 1 => wf_nxt (wf_its h hb k) hb
/-- while it goes on, each step counts -/
theorem nxt_C {n : Nat} {bg : Nat → Nat} {s : Ab} (h : aF (nxt n bg s) = 0) : aC (nxt n bg s) = aC s + 1 := by
  by_cases c0 : ¬ aF s = 0
  · rw [nxt_end c0] at h; exact absurd h c0
  have c0 : aF s = 0 := Classical.not_not.mp c0
  by_cases c1 : 12 < kd s
  · rw [nxt_bad c0 c1] at h; exact absurd h (by show ¬ (-1 : Int32) = 0; decide)
  by_cases c2 : kd s = 0
  · by_cases c3 : aD s = 1
    · rw [nxt_over c0 c2 c3]; rfl
    · rw [nxt_back c0 c2 c3]; rfl
  by_cases c3 : kd s = 9
  · by_cases c4 : aD s = 6
    · rw [nxt_deep c0 c3 c4]; rfl
    · by_cases c5 : opd s < n
      · rw [nxt_call c0 c3 c4 c5]; rfl
      · rw [nxt_none c0 c3 c4 c5]; rfl
  · rw [nxt_act c0 c1 c2 c3]; rfl
theorem its_C {n : Nat} {bg : Nat → Nat} {s : Ab} (h0 : aC s = 0) : ∀ k, aF (its n bg s k) = 0 → aC (its n bg s k) = k
  | 0, _ => h0
  | k + 1, h => by
    have h : aF (nxt n bg (its n bg s k)) = 0 := h
    have e : aC (its n bg s (k + 1)) = aC (its n bg s k) + 1 := nxt_C h
    have h' : aF (its n bg s k) = 0 := Classical.byContradiction (fun z => by rw [nxt_end z] at h; exact z h)
    rw [e, its_C h0 k h']
theorem its_end {n : Nat} {bg : Nat → Nat} {s : Ab} {k : Nat} (h : ¬ aF (its n bg s k) = 0) : ∀ j, its n bg s (k + j) = its n bg s k
  | 0 => rfl
  | j + 1 => by
    show nxt n bg (its n bg s (k + j)) = _
    rw [its_end h j, nxt_end h]
