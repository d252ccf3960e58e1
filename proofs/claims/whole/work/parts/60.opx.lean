/-! read, head, share: class and model -/
theorem rel_sl {i : Nat} {T : St} {v : Int64} (h : Rel i T T) : Rel i (sl T 151 0 v) (sl T 151 0 v) := h
theorem rel_sl2 {i : Nat} {T : St} {v : Int64} {w : Int32} (h : Rel i T T) : Rel (i + 1) (sv (sl T 151 0 v) 130 0 w) (sv (sl T 151 0 v) 130 0 w) := h.same (fun j h1 _ => sv_ne h1) (fun j hj => sv_j hj) rfl
/-- what the law asks of a call that may throw -/
def Thx (i : Nat) (k b th : Int32) (T : St) : Prop := th = k ∧ (k = 0 → T.2 151 0 = b.toInt64) ∧ Rel (i + 1) T T
theorem op_read {i : Nat} {a1 : Int32} {T : St} (h : Rel i T T) : wp_L_read a1 T (fun k T1 => wp_X7_read a1 T1 (fun b T2 => wp_X7_thrown T2 (fun th T3 => Thx i k b th T3))) := by
  unfold wp_L_read wpx_X6_read
  rcases x_cases a1 255 (by omega) with hb | ⟨p, hp, rfl⟩
  · refine s_noPlace_bad hb ⟨fun _ => ⟨rfl, ?_⟩, fun z => absurd z (by decide)⟩
    unfold wp_X7_read
    refine s_in_bad hb ⟨fun _ => ⟨fun _ => ?_, fun z => absurd z (by rw [sv_k]; decide)⟩, fun z => absurd rfl z⟩
    exact ⟨sv_k, fun z => absurd z (by decide), h.thr⟩
  · refine s_noPlace_ok (by omega) ⟨fun z => absurd rfl z, fun _ => ⟨vin (by omega) (by omega), ?_⟩⟩
    obtain ⟨l, n, mem, bg, ns, sn, nk, fi, kp, h1, h2, h3, h4, h5, h6⟩ := id h
    unfold wp_X7_read
    refine s_in_ok (lo := 0) (hi := 255) (by omega) hp (by omega) ⟨fun z => absurd z (by decide), fun _ => ⟨fun z => absurd sv_k z, fun _ => ⟨vin (by omega) (by omega), ?_⟩⟩⟩
    refine ⟨sv_k, fun _ => ?_, rel_sl2 h⟩
    show (sl T 151 0 _).2 151 0 = _
    rw [sl_k, cl (by omega), sv_ne (by decide)]
    show (T.1 5 p).toInt64 = (T.1 131 p).toInt64
    rw [(h1.2.2.2.1 p (by omega)).1, (h1.1.2.1 p (by omega)).1]
theorem lcmp0 {y : Nat} (h : y < 2 ^ 31) : lg_cmp (lN y) 0 = 0 ↔ y = 0 := by
  have e : (0 : Int64) = lN 0 := rfl
  rw [lg_cmp_eq, e]
  exact lN_eq h (by omega)
theorem op_share {i : Nat} {T : St} (hi : i ≤ 1000) (h : Rel i T T) : wp_L_share T (fun k T1 => wp_X7_share T1 (fun b T2 => wp_X7_thrown T2 (fun th T3 => Thx i k b th T3))) := by
  obtain ⟨l, n, mem, bg, ns, sn, nk, fi, kp, h1, h2, h3, h4, h5, h6⟩ := id h
  obtain ⟨-, -, -, x, y, c1, c2, c3, c4, c5⟩ := h6
  unfold wp_L_share wpx_X6_share
  rw [c2, c3, n_0, nIe (by omega) (by omega)]
  refine ⟨fun z => ⟨rfl, ?_⟩, fun z => ?_⟩
  · show wp_X7_share T _
    unfold wp_X7_share
    rw [c5, lcmp0 (by omega)]
    exact ⟨fun w => absurd z w, fun _ => ⟨fun _ => ⟨sv_k, fun w => absurd w (by decide), h.thr⟩, fun w => absurd w (by rw [sv_k]; decide)⟩⟩
  · show wp_X7_share (sl T 151 0 (nI x / nI y).toInt64) _
    unfold wp_X7_share
    have e2 : (sl T 151 0 (nI x / nI y).toInt64).2 130 = T.2 130 := rfl
    rw [e2, c5, lcmp0 (by omega)]
    refine ⟨fun _ => ⟨fun w => absurd sv_k w, fun _ => ⟨?_, ?_⟩⟩, fun w => absurd w z⟩
    · rw [sv2, e2, c5]
      exact fun w => z ((lN_eq (by omega) (by omega)).mp w)
    · refine ⟨sv_k, fun _ => ?_, rel_sl2 h⟩
      show (sl T 151 0 _).2 151 0 = _
      rw [sv2, e2, c4, c5, pk_div (by omega) (by omega) (by omega), pk_lDiv (by omega) (by omega) (by omega), lN_i]; exact sl_k
