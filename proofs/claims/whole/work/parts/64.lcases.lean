/-! the law: its eighteen calls (written by mklaw.py) -/
set_option maxRecDepth 100000 in
set_option maxHeartbeats 4000000 in
theorem lc_put {p : Program} {l : Launch} {e : Env} {s : State} {m : MethodId} {below : List Frame} {meth : Method} {c : Code} {H : Heap} {locs : List Loc} {cells slots : Nat} {Q : State → Prop} {b L : Nat} {xs : Nat → Int32} {G : Gm} {sa : Nat × Nat × Nat × Nat} {ls : Array Slot} {x : Int32} {T : St} {i : Nat} (h : LC p s m meth c b L xs G sa) (hR : Rel i T T) (hP : va_P G.1 sc_cl (wd G T) H) (hS : va_S (AB G) s.heap H locs) (hl : lv_has ls 7 (lvs b G x)) (hin : ∀ k : Int32, k ∈ ([1, 2, 3, 4] : List Int32) → vp_in (x + k) L) (hcells : cells + 1 ≤ 603072) (hslots : slots + 8 ≤ 7215210)
    (kk : ∀ (T : St) (H : Heap) (locs : List Loc) (ls : Array Slot), Rel (i + 1) T T → va_P G.1 sc_cl (wd G T) H → va_S (AB G) s.heap H locs → lv_has ls 7 (lvs b G x) → W p l e room_1 s m #[Value.ref b] below meth c H locs (cells + 1) (slots + 8) Q (F0 m 771 ls [])) : W p l e room_1 s m #[Value.ref b] below meth c H locs cells slots Q (F0 m 124 ls []) := by
  obtain ⟨C, hA, hG0, hXs, hbl, hr, hlocks, hXW, hZ⟩ := id h
  obtain ⟨hx, hb, hml, hown, hg, hK, hN, hi⟩ := id C
  refine lv_aload_n hx hb dL_law_124 rfl (lv_at hl 1 rfl) ?_
  refine lx_arg h hS hl (v := 1) (hin 1 (by decide)) dL_law_125 dL_law_126 dL_law_128 (by decide) dL_law_129 dL_law_130 ?_
  refine lx_arg h hS hl (v := 2) (hin 2 (by decide)) dL_law_131 dL_law_132 dL_law_134 (by decide) dL_law_135 dL_law_136 ?_
  refine lv_i2l hx hb dL_law_137 rfl ?_
  refine lv_bipush (v := 32) hx hb dL_law_138 (by decide) ?_
  refine lv_lshl hx hb dL_law_140 rfl ?_
  refine lx_arg h hS hl (v := 3) (hin 3 (by decide)) dL_law_141 dL_law_142 dL_law_144 (by decide) dL_law_145 dL_law_146 ?_
  refine lv_i2l hx hb dL_law_147 rfl ?_
  refine lv_ldc2 hx hb hown (hg _ w_1013) dL_law_148 ?_
  refine lv_land hx hb dL_law_151 ?_
  refine lv_lor hx hb dL_law_152 ?_
  refine lx_arg h hS hl (v := 4) (hin 4 (by decide)) dL_law_153 dL_law_154 dL_law_156 (by decide) dL_law_157 dL_law_158 ?_
  refine sy_goi (sy_runV C hP (o := 0) (ci := 6) rfl rfl (m_X6_put l G hi (xs (x + 1).toNatClampNeg) (((xs (x + 2).toNatClampNeg).toInt64 <<< ((32 : Int32).toInt64 &&& 63)) ||| ((xs (x + 3).toNatClampNeg).toInt64 &&& 4294967295)) (xs (x + 4).toNatClampNeg) T _ (op_put hR)) mw_X6_put w_271 w_272 w_270 (rest := []) rfl hl.1 rfl (Nat.le_of_ble_eq_true rfl) ⟨(Nat.le_of_ble_eq_true rfl), (Nat.le_of_ble_eq_true rfl)⟩ dL_law_159 ⟨(by show cells + 0 ≤ 603072; omega), (by show slots + 0 ≤ 7215210; omega)⟩) hS (sa_ab hA) (fun r1 T1 H locs hw hP hS => ?_)
  refine lv_aload_n hx hb dL_law_162 rfl (lv_at hl 2 rfl) ?_
  refine lx_arg h hS hl (v := 1) (hin 1 (by decide)) dL_law_163 dL_law_164 dL_law_166 (by decide) dL_law_167 dL_law_168 ?_
  refine lx_arg h hS hl (v := 2) (hin 2 (by decide)) dL_law_169 dL_law_170 dL_law_172 (by decide) dL_law_173 dL_law_174 ?_
  refine lv_i2l hx hb dL_law_175 rfl ?_
  refine lv_bipush (v := 32) hx hb dL_law_176 (by decide) ?_
  refine lv_lshl hx hb dL_law_178 rfl ?_
  refine lx_arg h hS hl (v := 3) (hin 3 (by decide)) dL_law_179 dL_law_180 dL_law_182 (by decide) dL_law_183 dL_law_184 ?_
  refine lv_i2l hx hb dL_law_185 rfl ?_
  refine lv_ldc2 hx hb hown (hg _ w_1013) dL_law_186 ?_
  refine lv_land hx hb dL_law_189 ?_
  refine lv_lor hx hb dL_law_190 ?_
  refine lx_arg h hS hl (v := 4) (hin 4 (by decide)) dL_law_191 dL_law_192 dL_law_194 (by decide) dL_law_195 dL_law_196 ?_
  refine sy_goi (sy_runV C hP (o := 130) (ci := 7) rfl rfl (m_X7_put l G hi (xs (x + 1).toNatClampNeg) (((xs (x + 2).toNatClampNeg).toInt64 <<< ((32 : Int32).toInt64 &&& 63)) ||| ((xs (x + 3).toNatClampNeg).toInt64 &&& 4294967295)) (xs (x + 4).toNatClampNeg) T1 _ hw) mw_X7_put w_870 w_871 w_869 (rest := [.int r1]) rfl hl.1 rfl (Nat.le_of_ble_eq_true rfl) ⟨(Nat.le_of_ble_eq_true rfl), (Nat.le_of_ble_eq_true rfl)⟩ dL_law_197 ⟨(by show cells + 0 ≤ 603072; omega), (by show slots + 0 ≤ 7215210; omega)⟩) hS (sa_ab hA) (fun r2 T2 H locs hw hP hS => ?_)
  refine lv_icmp_eq (tgt := 771) hx hb dL_law_200 (by decide) (fun _ => W.widen (k := cells + 1) (n := slots + 8) (by omega) (by omega) (kk _ _ _ _ hw.2 hP hS hl)) (fun z => absurd hw.1 z)
set_option maxRecDepth 100000 in
set_option maxHeartbeats 4000000 in
theorem lc_write {p : Program} {l : Launch} {e : Env} {s : State} {m : MethodId} {below : List Frame} {meth : Method} {c : Code} {H : Heap} {locs : List Loc} {cells slots : Nat} {Q : State → Prop} {b L : Nat} {xs : Nat → Int32} {G : Gm} {sa : Nat × Nat × Nat × Nat} {ls : Array Slot} {x : Int32} {T : St} {i : Nat} (h : LC p s m meth c b L xs G sa) (hR : Rel i T T) (hP : va_P G.1 sc_cl (wd G T) H) (hS : va_S (AB G) s.heap H locs) (hl : lv_has ls 7 (lvs b G x)) (hin : ∀ k : Int32, k ∈ ([1, 2, 3, 4] : List Int32) → vp_in (x + k) L) (hcells : cells + 1 ≤ 603072) (hslots : slots + 8 ≤ 7215210)
    (kk : ∀ (T : St) (H : Heap) (locs : List Loc) (ls : Array Slot), Rel (i + 1) T T → va_P G.1 sc_cl (wd G T) H → va_S (AB G) s.heap H locs → lv_has ls 7 (lvs b G x) → W p l e room_1 s m #[Value.ref b] below meth c H locs (cells + 1) (slots + 8) Q (F0 m 771 ls [])) : W p l e room_1 s m #[Value.ref b] below meth c H locs cells slots Q (F0 m 205 ls []) := by
  obtain ⟨C, hA, hG0, hXs, hbl, hr, hlocks, hXW, hZ⟩ := id h
  obtain ⟨hx, hb, hml, hown, hg, hK, hN, hi⟩ := id C
  refine lv_aload_n hx hb dL_law_205 rfl (lv_at hl 1 rfl) ?_
  refine lx_arg h hS hl (v := 1) (hin 1 (by decide)) dL_law_206 dL_law_207 dL_law_209 (by decide) dL_law_210 dL_law_211 ?_
  refine lx_arg h hS hl (v := 2) (hin 2 (by decide)) dL_law_212 dL_law_213 dL_law_215 (by decide) dL_law_216 dL_law_217 ?_
  refine sy_goi (sy_runV C hP (o := 0) (ci := 6) rfl rfl (m_X6_write l G hi (xs (x + 1).toNatClampNeg) (xs (x + 2).toNatClampNeg) T _ (op_write hR)) mw_X6_write w_331 w_332 w_330 (rest := []) rfl hl.1 rfl (Nat.le_of_ble_eq_true rfl) ⟨(Nat.le_of_ble_eq_true rfl), (Nat.le_of_ble_eq_true rfl)⟩ dL_law_218 ⟨(by show cells + 0 ≤ 603072; omega), (by show slots + 0 ≤ 7215210; omega)⟩) hS (sa_ab hA) (fun r1 T1 H locs hw hP hS => ?_)
  refine lv_aload_n hx hb dL_law_221 rfl (lv_at hl 2 rfl) ?_
  refine lx_arg h hS hl (v := 1) (hin 1 (by decide)) dL_law_222 dL_law_223 dL_law_225 (by decide) dL_law_226 dL_law_227 ?_
  refine lx_arg h hS hl (v := 2) (hin 2 (by decide)) dL_law_228 dL_law_229 dL_law_231 (by decide) dL_law_232 dL_law_233 ?_
  refine sy_goi (sy_runV C hP (o := 130) (ci := 7) rfl rfl (m_X7_write l G hi (xs (x + 1).toNatClampNeg) (xs (x + 2).toNatClampNeg) T1 _ hw) mw_X7_write w_898 w_899 w_897 (rest := [.int r1]) rfl hl.1 rfl (Nat.le_of_ble_eq_true rfl) ⟨(Nat.le_of_ble_eq_true rfl), (Nat.le_of_ble_eq_true rfl)⟩ dL_law_234 ⟨(by show cells + 0 ≤ 603072; omega), (by show slots + 0 ≤ 7215210; omega)⟩) hS (sa_ab hA) (fun r2 T2 H locs hw hP hS => ?_)
  refine lv_icmp_eq (tgt := 771) hx hb dL_law_237 (by decide) (fun _ => W.widen (k := cells + 1) (n := slots + 8) (by omega) (by omega) (kk _ _ _ _ hw.2 hP hS hl)) (fun z => absurd hw.1 z)
set_option maxRecDepth 100000 in
set_option maxHeartbeats 4000000 in
theorem lc_read {p : Program} {l : Launch} {e : Env} {s : State} {m : MethodId} {below : List Frame} {meth : Method} {c : Code} {H : Heap} {locs : List Loc} {cells slots : Nat} {Q : State → Prop} {b L : Nat} {xs : Nat → Int32} {G : Gm} {sa : Nat × Nat × Nat × Nat} {ls : Array Slot} {x : Int32} {T : St} {i : Nat} (htr : l.stackTraces = false) (hi5 : i ≤ 511) (h : LC p s m meth c b L xs G sa) (hR : Rel i T T) (hP : va_P G.1 sc_cl (wd G T) H) (hS : va_S (AB G) s.heap H locs) (hl : lv_has ls 7 (lvs b G x)) (hin : ∀ k : Int32, k ∈ ([1, 2, 3, 4] : List Int32) → vp_in (x + k) L) (hcells : cells + 1 ≤ 603072) (hslots : slots + 8 ≤ 7215210)
    (kk : ∀ (T : St) (H : Heap) (locs : List Loc) (ls : Array Slot), Rel (i + 1) T T → va_P G.1 sc_cl (wd G T) H → va_S (AB G) s.heap H locs → lv_has ls 7 (lvs b G x) → W p l e room_1 s m #[Value.ref b] below meth c H locs (cells + 1) (slots + 8) Q (F0 m 771 ls [])) : W p l e room_1 s m #[Value.ref b] below meth c H locs cells slots Q (F0 m 242 ls []) := by
  obtain ⟨C, hA, hG0, hXs, hbl, hr, hlocks, hXW, hZ⟩ := id h
  obtain ⟨hx, hb, hml, hown, hg, hK, hN, hi⟩ := id C
  refine lv_aload_n hx hb dL_law_242 rfl (lv_at hl 1 rfl) ?_
  refine lx_arg h hS hl (v := 1) (hin 1 (by decide)) dL_law_243 dL_law_244 dL_law_246 (by decide) dL_law_247 dL_law_248 ?_
  refine lv_aload_n hx hb dL_law_249 rfl (lv_at hl 3 rfl) ?_
  refine lx_run h htr hP hS (As := [.ref (G.2.2 0), .int (xs (x + 1).toNatClampNeg), .ref (G.2.2 151)]) (n := 3) (l_read l htr G hi sa (xs (x + 1).toNatClampNeg) T _ (op_read hR)) q_579 w_577 w_578 (by decide) (by decide) (by decide +kernel) rfl hl.1 rfl ⟨(Nat.le_of_ble_eq_true rfl), (Nat.le_of_ble_eq_true rfl)⟩ dL_law_250 (by omega) (by omega) (fun k T1 H locs hw hP hS => ?_)
  refine lv_istore (lv' := (5, .int k) :: lvs b G x) hx hb dL_law_253 hl (by decide) rfl (fun ls hl => ?_)
  have hl2 : lv_has ls 7 (lvs b G x) := lv_sub hl [1, 2, 3, 4, 5] rfl
  refine W.widen (k := cells + 1) (n := slots + 8) (by omega) (by omega) ?_
  refine lv_aload_n hx hb dL_law_255 rfl (lv_at hl2 2 rfl) ?_
  refine lx_arg h hS hl2 (v := 1) (hin 1 (by decide)) dL_law_256 dL_law_257 dL_law_259 (by decide) dL_law_260 dL_law_261 ?_
  refine sy_goi (sy_runV C hP (o := 130) (ci := 7) rfl rfl (m_X7_read l G hi (xs (x + 1).toNatClampNeg) T1 _ hw) mw_X7_read w_902 w_903 w_901 (rest := []) rfl hl.1 rfl (Nat.le_of_ble_eq_true rfl) ⟨(Nat.le_of_ble_eq_true rfl), (Nat.le_of_ble_eq_true rfl)⟩ dL_law_262 ⟨(by show cells + 1 + 0 ≤ 603072; omega), (by show slots + 8 + 0 ≤ 7215210; omega)⟩) hS (sa_ab hA) (fun rb T2 H locs hw hP hS => ?_)
  refine lv_istore (lv' := (6, .int rb) :: (5, .int k) :: lvs b G x) hx hb dL_law_265 hl (by decide) rfl (fun ls hl => ?_)
  refine lv_aload_n hx hb dL_law_267 rfl (lv_at hl 4 rfl) ?_
  refine sy_goi (sy_runV C hP (o := 130) (ci := 7) rfl rfl (m_X7_thrown l G hi  T2 _ hw) mw_X7_thrown w_866 w_867 w_865 (rest := []) rfl hl.1 rfl (Nat.le_of_ble_eq_true rfl) ⟨(Nat.le_of_ble_eq_true rfl), (Nat.le_of_ble_eq_true rfl)⟩ dL_law_268 ⟨(by show cells + 1 + 0 ≤ 603072; omega), (by show slots + 8 + 0 ≤ 7215210; omega)⟩) hS (sa_ab hA) (fun th T3 H locs hw hP hS => ?_)
  refine lv_iload hx hb dL_law_271 (lv_at hl 1 rfl) ?_
  have fin := kk T3 H locs ls hw.2.2 hP hS (lv_sub hl [2, 3, 4, 5, 6] rfl)
  refine lv_icmp_eq (tgt := 278) hx hb dL_law_273 (by decide) (fun _ => ?_) (fun z => absurd hw.1 z)
  refine lv_iload hx hb dL_law_278 (lv_at hl 1 rfl) ?_
  refine lv_if_ne (tgt := 295) hx hb dL_law_280 (by decide) (fun _ => lv_goto (tgt := 771) hx hb dL_law_295 (by decide) fin) (fun hk => ?_)
  refine lv_aload_n hx hb dL_law_283 rfl (lv_at hl 5 rfl) ?_
  refine lv_iconst (v := 0) hx hb dL_law_284 (by decide) ?_
  refine sy_lald C hP (o := 151) (n := 1) rfl rfl (vin (i := 0) (by omega) (by omega)) dL_law_285 ?_
  refine lv_iload hx hb dL_law_286 (lv_at hl 0 rfl) ?_
  refine lv_i2l hx hb dL_law_288 rfl ?_
  refine W.lcmp hx hb dL_law_289 ?_
  refine lv_if_eq (tgt := 295) hx hb dL_law_290 (by decide) (fun _ => lv_goto (tgt := 771) hx hb dL_law_295 (by decide) fin) (fun z => absurd ((lg_cmp_eq _ _).mpr (hw.2.1 hk)) z)
set_option maxRecDepth 100000 in
set_option maxHeartbeats 4000000 in
theorem lc_routine {p : Program} {l : Launch} {e : Env} {s : State} {m : MethodId} {below : List Frame} {meth : Method} {c : Code} {H : Heap} {locs : List Loc} {cells slots : Nat} {Q : State → Prop} {b L : Nat} {xs : Nat → Int32} {G : Gm} {sa : Nat × Nat × Nat × Nat} {ls : Array Slot} {x : Int32} {T : St} {i : Nat} (h : LC p s m meth c b L xs G sa) (hR : Rel i T T) (hP : va_P G.1 sc_cl (wd G T) H) (hS : va_S (AB G) s.heap H locs) (hl : lv_has ls 7 (lvs b G x)) (hin : ∀ k : Int32, k ∈ ([1, 2, 3, 4] : List Int32) → vp_in (x + k) L) (hcells : cells + 1 ≤ 603072) (hslots : slots + 8 ≤ 7215210)
    (kk : ∀ (T : St) (H : Heap) (locs : List Loc) (ls : Array Slot), Rel (i + 1) T T → va_P G.1 sc_cl (wd G T) H → va_S (AB G) s.heap H locs → lv_has ls 7 (lvs b G x) → W p l e room_1 s m #[Value.ref b] below meth c H locs (cells + 1) (slots + 8) Q (F0 m 771 ls [])) : W p l e room_1 s m #[Value.ref b] below meth c H locs cells slots Q (F0 m 298 ls []) := by
  obtain ⟨C, hA, hG0, hXs, hbl, hr, hlocks, hXW, hZ⟩ := id h
  obtain ⟨hx, hb, hml, hown, hg, hK, hN, hi⟩ := id C
  refine lv_aload_n hx hb dL_law_298 rfl (lv_at hl 1 rfl) ?_
  refine lx_arg h hS hl (v := 1) (hin 1 (by decide)) dL_law_299 dL_law_300 dL_law_302 (by decide) dL_law_303 dL_law_304 ?_
  refine sy_goi (sy_runV C hP (o := 0) (ci := 6) rfl rfl (m_X6_routine l G hi (xs (x + 1).toNatClampNeg) T _ (op_routine hR)) mw_X6_routine w_335 w_336 w_334 (rest := []) rfl hl.1 rfl (Nat.le_of_ble_eq_true rfl) ⟨(Nat.le_of_ble_eq_true rfl), (Nat.le_of_ble_eq_true rfl)⟩ dL_law_305 ⟨(by show cells + 0 ≤ 603072; omega), (by show slots + 0 ≤ 7215210; omega)⟩) hS (sa_ab hA) (fun r1 T1 H locs hw hP hS => ?_)
  refine lv_aload_n hx hb dL_law_308 rfl (lv_at hl 2 rfl) ?_
  refine lx_arg h hS hl (v := 1) (hin 1 (by decide)) dL_law_309 dL_law_310 dL_law_312 (by decide) dL_law_313 dL_law_314 ?_
  refine sy_goi (sy_runV C hP (o := 130) (ci := 7) rfl rfl (m_X7_routine l G hi (xs (x + 1).toNatClampNeg) T1 _ hw) mw_X7_routine w_906 w_907 w_905 (rest := [.int r1]) rfl hl.1 rfl (Nat.le_of_ble_eq_true rfl) ⟨(Nat.le_of_ble_eq_true rfl), (Nat.le_of_ble_eq_true rfl)⟩ dL_law_315 ⟨(by show cells + 0 ≤ 603072; omega), (by show slots + 0 ≤ 7215210; omega)⟩) hS (sa_ab hA) (fun r2 T2 H locs hw hP hS => ?_)
  refine lv_icmp_eq (tgt := 771) hx hb dL_law_318 (by decide) (fun _ => W.widen (k := cells + 1) (n := slots + 8) (by omega) (by omega) (kk _ _ _ _ hw.2 hP hS hl)) (fun z => absurd hw.1 z)
set_option maxRecDepth 100000 in
set_option maxHeartbeats 4000000 in
theorem lc_make {p : Program} {l : Launch} {e : Env} {s : State} {m : MethodId} {below : List Frame} {meth : Method} {c : Code} {H : Heap} {locs : List Loc} {cells slots : Nat} {Q : State → Prop} {b L : Nat} {xs : Nat → Int32} {G : Gm} {sa : Nat × Nat × Nat × Nat} {ls : Array Slot} {x : Int32} {T : St} {i : Nat} (h : LC p s m meth c b L xs G sa) (hR : Rel i T T) (hP : va_P G.1 sc_cl (wd G T) H) (hS : va_S (AB G) s.heap H locs) (hl : lv_has ls 7 (lvs b G x)) (hin : ∀ k : Int32, k ∈ ([1, 2, 3, 4] : List Int32) → vp_in (x + k) L) (hcells : cells + 1 ≤ 603072) (hslots : slots + 8 ≤ 7215210)
    (kk : ∀ (T : St) (H : Heap) (locs : List Loc) (ls : Array Slot), Rel (i + 1) T T → va_P G.1 sc_cl (wd G T) H → va_S (AB G) s.heap H locs → lv_has ls 7 (lvs b G x) → W p l e room_1 s m #[Value.ref b] below meth c H locs (cells + 1) (slots + 8) Q (F0 m 771 ls [])) : W p l e room_1 s m #[Value.ref b] below meth c H locs cells slots Q (F0 m 323 ls []) := by
  obtain ⟨C, hA, hG0, hXs, hbl, hr, hlocks, hXW, hZ⟩ := id h
  obtain ⟨hx, hb, hml, hown, hg, hK, hN, hi⟩ := id C
  refine lv_aload_n hx hb dL_law_323 rfl (lv_at hl 1 rfl) ?_
  refine sy_goi (sy_runV C hP (o := 0) (ci := 6) rfl rfl (m_X6_make l G hi  T _ (op_make hR)) mw_X6_make w_343 w_344 w_342 (rest := []) rfl hl.1 rfl (Nat.le_of_ble_eq_true rfl) ⟨(Nat.le_of_ble_eq_true rfl), (Nat.le_of_ble_eq_true rfl)⟩ dL_law_324 ⟨(by show cells + 0 ≤ 603072; omega), (by show slots + 0 ≤ 7215210; omega)⟩) hS (sa_ab hA) (fun r1 T1 H locs hw hP hS => ?_)
  refine lv_aload_n hx hb dL_law_327 rfl (lv_at hl 2 rfl) ?_
  refine sy_goi (sy_runV C hP (o := 130) (ci := 7) rfl rfl (m_X7_make l G hi  T1 _ hw) mw_X7_make w_910 w_911 w_909 (rest := [.int r1]) rfl hl.1 rfl (Nat.le_of_ble_eq_true rfl) ⟨(Nat.le_of_ble_eq_true rfl), (Nat.le_of_ble_eq_true rfl)⟩ dL_law_328 ⟨(by show cells + 0 ≤ 603072; omega), (by show slots + 0 ≤ 7215210; omega)⟩) hS (sa_ab hA) (fun r2 T2 H locs hw hP hS => ?_)
  refine lv_icmp_eq (tgt := 771) hx hb dL_law_331 (by decide) (fun _ => W.widen (k := cells + 1) (n := slots + 8) (by omega) (by omega) (kk _ _ _ _ hw.2 hP hS hl)) (fun z => absurd hw.1 z)
set_option maxRecDepth 100000 in
set_option maxHeartbeats 4000000 in
theorem lc_member {p : Program} {l : Launch} {e : Env} {s : State} {m : MethodId} {below : List Frame} {meth : Method} {c : Code} {H : Heap} {locs : List Loc} {cells slots : Nat} {Q : State → Prop} {b L : Nat} {xs : Nat → Int32} {G : Gm} {sa : Nat × Nat × Nat × Nat} {ls : Array Slot} {x : Int32} {T : St} {i : Nat} (h : LC p s m meth c b L xs G sa) (hR : Rel i T T) (hP : va_P G.1 sc_cl (wd G T) H) (hS : va_S (AB G) s.heap H locs) (hl : lv_has ls 7 (lvs b G x)) (hin : ∀ k : Int32, k ∈ ([1, 2, 3, 4] : List Int32) → vp_in (x + k) L) (hcells : cells + 1 ≤ 603072) (hslots : slots + 8 ≤ 7215210)
    (kk : ∀ (T : St) (H : Heap) (locs : List Loc) (ls : Array Slot), Rel (i + 1) T T → va_P G.1 sc_cl (wd G T) H → va_S (AB G) s.heap H locs → lv_has ls 7 (lvs b G x) → W p l e room_1 s m #[Value.ref b] below meth c H locs (cells + 1) (slots + 8) Q (F0 m 771 ls [])) : W p l e room_1 s m #[Value.ref b] below meth c H locs cells slots Q (F0 m 336 ls []) := by
  obtain ⟨C, hA, hG0, hXs, hbl, hr, hlocks, hXW, hZ⟩ := id h
  obtain ⟨hx, hb, hml, hown, hg, hK, hN, hi⟩ := id C
  refine lv_aload_n hx hb dL_law_336 rfl (lv_at hl 1 rfl) ?_
  refine lx_arg h hS hl (v := 1) (hin 1 (by decide)) dL_law_337 dL_law_338 dL_law_340 (by decide) dL_law_341 dL_law_342 ?_
  refine lx_arg h hS hl (v := 2) (hin 2 (by decide)) dL_law_343 dL_law_344 dL_law_346 (by decide) dL_law_347 dL_law_348 ?_
  refine sy_goi (sy_runV C hP (o := 0) (ci := 6) rfl rfl (m_X6_member l G hi (xs (x + 1).toNatClampNeg) (xs (x + 2).toNatClampNeg) T _ (op_member hR)) mw_X6_member w_395 w_396 w_394 (rest := []) rfl hl.1 rfl (Nat.le_of_ble_eq_true rfl) ⟨(Nat.le_of_ble_eq_true rfl), (Nat.le_of_ble_eq_true rfl)⟩ dL_law_349 ⟨(by show cells + 0 ≤ 603072; omega), (by show slots + 0 ≤ 7215210; omega)⟩) hS (sa_ab hA) (fun r1 T1 H locs hw hP hS => ?_)
  refine lv_aload_n hx hb dL_law_352 rfl (lv_at hl 2 rfl) ?_
  refine lx_arg h hS hl (v := 1) (hin 1 (by decide)) dL_law_353 dL_law_354 dL_law_356 (by decide) dL_law_357 dL_law_358 ?_
  refine lx_arg h hS hl (v := 2) (hin 2 (by decide)) dL_law_359 dL_law_360 dL_law_362 (by decide) dL_law_363 dL_law_364 ?_
  refine sy_goi (sy_runV C hP (o := 130) (ci := 7) rfl rfl (m_X7_member l G hi (xs (x + 1).toNatClampNeg) (xs (x + 2).toNatClampNeg) T1 _ hw) mw_X7_member w_929 w_930 w_928 (rest := [.int r1]) rfl hl.1 rfl (Nat.le_of_ble_eq_true rfl) ⟨(Nat.le_of_ble_eq_true rfl), (Nat.le_of_ble_eq_true rfl)⟩ dL_law_365 ⟨(by show cells + 0 ≤ 603072; omega), (by show slots + 0 ≤ 7215210; omega)⟩) hS (sa_ab hA) (fun r2 T2 H locs hw hP hS => ?_)
  refine lv_icmp_eq (tgt := 771) hx hb dL_law_368 (by decide) (fun _ => W.widen (k := cells + 1) (n := slots + 8) (by omega) (by omega) (kk _ _ _ _ hw.2 hP hS hl)) (fun z => absurd hw.1 z)
set_option maxRecDepth 100000 in
set_option maxHeartbeats 4000000 in
theorem lc_head {p : Program} {l : Launch} {e : Env} {s : State} {m : MethodId} {below : List Frame} {meth : Method} {c : Code} {H : Heap} {locs : List Loc} {cells slots : Nat} {Q : State → Prop} {b L : Nat} {xs : Nat → Int32} {G : Gm} {sa : Nat × Nat × Nat × Nat} {ls : Array Slot} {x : Int32} {T : St} {i : Nat} (htr : l.stackTraces = false) (hi5 : i ≤ 511) (h : LC p s m meth c b L xs G sa) (hR : Rel i T T) (hP : va_P G.1 sc_cl (wd G T) H) (hS : va_S (AB G) s.heap H locs) (hl : lv_has ls 7 (lvs b G x)) (hin : ∀ k : Int32, k ∈ ([1, 2, 3, 4] : List Int32) → vp_in (x + k) L) (hcells : cells + 1 ≤ 603072) (hslots : slots + 8 ≤ 7215210)
    (kk : ∀ (T : St) (H : Heap) (locs : List Loc) (ls : Array Slot), Rel (i + 1) T T → va_P G.1 sc_cl (wd G T) H → va_S (AB G) s.heap H locs → lv_has ls 7 (lvs b G x) → W p l e room_1 s m #[Value.ref b] below meth c H locs (cells + 1) (slots + 8) Q (F0 m 771 ls [])) : W p l e room_1 s m #[Value.ref b] below meth c H locs cells slots Q (F0 m 373 ls []) := by
  obtain ⟨C, hA, hG0, hXs, hbl, hr, hlocks, hXW, hZ⟩ := id h
  obtain ⟨hx, hb, hml, hown, hg, hK, hN, hi⟩ := id C
  refine lv_aload_n hx hb dL_law_373 rfl (lv_at hl 1 rfl) ?_
  refine lx_arg h hS hl (v := 1) (hin 1 (by decide)) dL_law_374 dL_law_375 dL_law_377 (by decide) dL_law_378 dL_law_379 ?_
  refine lx_arg h hS hl (v := 2) (hin 2 (by decide)) dL_law_380 dL_law_381 dL_law_383 (by decide) dL_law_384 dL_law_385 ?_
  refine lv_aload_n hx hb dL_law_386 rfl (lv_at hl 3 rfl) ?_
  refine lx_run h htr hP hS (As := [.ref (G.2.2 0), .int (xs (x + 1).toNatClampNeg), .int (xs (x + 2).toNatClampNeg), .ref (G.2.2 151)]) (n := 4) (l_head l htr G hi sa (xs (x + 1).toNatClampNeg) (xs (x + 2).toNatClampNeg) T _ (op_head hR)) q_675 w_673 w_674 (by decide) (by decide) (by decide +kernel) rfl hl.1 rfl ⟨(Nat.le_of_ble_eq_true rfl), (Nat.le_of_ble_eq_true rfl)⟩ dL_law_387 (by omega) (by omega) (fun k T1 H locs hw hP hS => ?_)
  refine lv_istore (lv' := (5, .int k) :: lvs b G x) hx hb dL_law_390 hl (by decide) rfl (fun ls hl => ?_)
  have hl2 : lv_has ls 7 (lvs b G x) := lv_sub hl [1, 2, 3, 4, 5] rfl
  refine W.widen (k := cells + 1) (n := slots + 8) (by omega) (by omega) ?_
  refine lv_aload_n hx hb dL_law_392 rfl (lv_at hl2 2 rfl) ?_
  refine lx_arg h hS hl2 (v := 1) (hin 1 (by decide)) dL_law_393 dL_law_394 dL_law_396 (by decide) dL_law_397 dL_law_398 ?_
  refine lx_arg h hS hl2 (v := 2) (hin 2 (by decide)) dL_law_399 dL_law_400 dL_law_402 (by decide) dL_law_403 dL_law_404 ?_
  refine sy_goi (sy_runV C hP (o := 130) (ci := 7) rfl rfl (m_X7_head l G hi (xs (x + 1).toNatClampNeg) (xs (x + 2).toNatClampNeg) T1 _ hw) mw_X7_head w_941 w_942 w_940 (rest := []) rfl hl.1 rfl (Nat.le_of_ble_eq_true rfl) ⟨(Nat.le_of_ble_eq_true rfl), (Nat.le_of_ble_eq_true rfl)⟩ dL_law_405 ⟨(by show cells + 1 + 0 ≤ 603072; omega), (by show slots + 8 + 0 ≤ 7215210; omega)⟩) hS (sa_ab hA) (fun rb T2 H locs hw hP hS => ?_)
  refine lv_istore (lv' := (6, .int rb) :: (5, .int k) :: lvs b G x) hx hb dL_law_408 hl (by decide) rfl (fun ls hl => ?_)
  refine lv_aload_n hx hb dL_law_410 rfl (lv_at hl 4 rfl) ?_
  refine sy_goi (sy_runV C hP (o := 130) (ci := 7) rfl rfl (m_X7_thrown l G hi  T2 _ hw) mw_X7_thrown w_866 w_867 w_865 (rest := []) rfl hl.1 rfl (Nat.le_of_ble_eq_true rfl) ⟨(Nat.le_of_ble_eq_true rfl), (Nat.le_of_ble_eq_true rfl)⟩ dL_law_411 ⟨(by show cells + 1 + 0 ≤ 603072; omega), (by show slots + 8 + 0 ≤ 7215210; omega)⟩) hS (sa_ab hA) (fun th T3 H locs hw hP hS => ?_)
  refine lv_iload hx hb dL_law_414 (lv_at hl 1 rfl) ?_
  have fin := kk T3 H locs ls hw.2.2 hP hS (lv_sub hl [2, 3, 4, 5, 6] rfl)
  refine lv_icmp_eq (tgt := 421) hx hb dL_law_416 (by decide) (fun _ => ?_) (fun z => absurd hw.1 z)
  refine lv_iload hx hb dL_law_421 (lv_at hl 1 rfl) ?_
  refine lv_if_ne (tgt := 438) hx hb dL_law_423 (by decide) (fun _ => lv_goto (tgt := 771) hx hb dL_law_438 (by decide) fin) (fun hk => ?_)
  refine lv_aload_n hx hb dL_law_426 rfl (lv_at hl 5 rfl) ?_
  refine lv_iconst (v := 0) hx hb dL_law_427 (by decide) ?_
  refine sy_lald C hP (o := 151) (n := 1) rfl rfl (vin (i := 0) (by omega) (by omega)) dL_law_428 ?_
  refine lv_iload hx hb dL_law_429 (lv_at hl 0 rfl) ?_
  refine lv_i2l hx hb dL_law_431 rfl ?_
  refine W.lcmp hx hb dL_law_432 ?_
  refine lv_if_eq (tgt := 438) hx hb dL_law_433 (by decide) (fun _ => lv_goto (tgt := 771) hx hb dL_law_438 (by decide) fin) (fun z => absurd ((lg_cmp_eq _ _).mpr (hw.2.1 hk)) z)
set_option maxRecDepth 100000 in
set_option maxHeartbeats 4000000 in
theorem lc_makeable {p : Program} {l : Launch} {e : Env} {s : State} {m : MethodId} {below : List Frame} {meth : Method} {c : Code} {H : Heap} {locs : List Loc} {cells slots : Nat} {Q : State → Prop} {b L : Nat} {xs : Nat → Int32} {G : Gm} {sa : Nat × Nat × Nat × Nat} {ls : Array Slot} {x : Int32} {T : St} {i : Nat} (h : LC p s m meth c b L xs G sa) (hR : Rel i T T) (hP : va_P G.1 sc_cl (wd G T) H) (hS : va_S (AB G) s.heap H locs) (hl : lv_has ls 7 (lvs b G x)) (hin : ∀ k : Int32, k ∈ ([1, 2, 3, 4] : List Int32) → vp_in (x + k) L) (hcells : cells + 1 ≤ 603072) (hslots : slots + 8 ≤ 7215210)
    (kk : ∀ (T : St) (H : Heap) (locs : List Loc) (ls : Array Slot), Rel (i + 1) T T → va_P G.1 sc_cl (wd G T) H → va_S (AB G) s.heap H locs → lv_has ls 7 (lvs b G x) → W p l e room_1 s m #[Value.ref b] below meth c H locs (cells + 1) (slots + 8) Q (F0 m 771 ls [])) : W p l e room_1 s m #[Value.ref b] below meth c H locs cells slots Q (F0 m 441 ls []) := by
  obtain ⟨C, hA, hG0, hXs, hbl, hr, hlocks, hXW, hZ⟩ := id h
  obtain ⟨hx, hb, hml, hown, hg, hK, hN, hi⟩ := id C
  refine lv_aload_n hx hb dL_law_441 rfl (lv_at hl 1 rfl) ?_
  refine lx_arg h hS hl (v := 1) (hin 1 (by decide)) dL_law_442 dL_law_443 dL_law_445 (by decide) dL_law_446 dL_law_447 ?_
  refine sy_goi (sy_runV C hP (o := 0) (ci := 6) rfl rfl (m_X6_makeable l G hi (xs (x + 1).toNatClampNeg) T _ (op_makeable hR)) mw_X6_makeable w_407 w_408 w_406 (rest := []) rfl hl.1 rfl (Nat.le_of_ble_eq_true rfl) ⟨(Nat.le_of_ble_eq_true rfl), (Nat.le_of_ble_eq_true rfl)⟩ dL_law_448 ⟨(by show cells + 0 ≤ 603072; omega), (by show slots + 0 ≤ 7215210; omega)⟩) hS (sa_ab hA) (fun r1 T1 H locs hw hP hS => ?_)
  refine lv_aload_n hx hb dL_law_451 rfl (lv_at hl 2 rfl) ?_
  refine lx_arg h hS hl (v := 1) (hin 1 (by decide)) dL_law_452 dL_law_453 dL_law_455 (by decide) dL_law_456 dL_law_457 ?_
  refine sy_goi (sy_runV C hP (o := 130) (ci := 7) rfl rfl (m_X7_makeable l G hi (xs (x + 1).toNatClampNeg) T1 _ hw) mw_X7_makeable w_945 w_946 w_944 (rest := [.int r1]) rfl hl.1 rfl (Nat.le_of_ble_eq_true rfl) ⟨(Nat.le_of_ble_eq_true rfl), (Nat.le_of_ble_eq_true rfl)⟩ dL_law_458 ⟨(by show cells + 0 ≤ 603072; omega), (by show slots + 0 ≤ 7215210; omega)⟩) hS (sa_ab hA) (fun r2 T2 H locs hw hP hS => ?_)
  refine lv_icmp_eq (tgt := 771) hx hb dL_law_461 (by decide) (fun _ => W.widen (k := cells + 1) (n := slots + 8) (by omega) (by omega) (kk _ _ _ _ hw.2 hP hS hl)) (fun z => absurd hw.1 z)
set_option maxRecDepth 100000 in
set_option maxHeartbeats 4000000 in
theorem lc_run {p : Program} {l : Launch} {e : Env} {s : State} {m : MethodId} {below : List Frame} {meth : Method} {c : Code} {H : Heap} {locs : List Loc} {cells slots : Nat} {Q : State → Prop} {b L : Nat} {xs : Nat → Int32} {G : Gm} {sa : Nat × Nat × Nat × Nat} {ls : Array Slot} {x : Int32} {T : St} {i : Nat} (h : LC p s m meth c b L xs G sa) (hR : Rel i T T) (hP : va_P G.1 sc_cl (wd G T) H) (hS : va_S (AB G) s.heap H locs) (hl : lv_has ls 7 (lvs b G x)) (hin : ∀ k : Int32, k ∈ ([1, 2, 3, 4] : List Int32) → vp_in (x + k) L) (hcells : cells + 1 ≤ 603072) (hslots : slots + 8 ≤ 7215210)
    (kk : ∀ (T : St) (H : Heap) (locs : List Loc) (ls : Array Slot), Rel (i + 1) T T → va_P G.1 sc_cl (wd G T) H → va_S (AB G) s.heap H locs → lv_has ls 7 (lvs b G x) → W p l e room_1 s m #[Value.ref b] below meth c H locs (cells + 1) (slots + 8) Q (F0 m 771 ls [])) : W p l e room_1 s m #[Value.ref b] below meth c H locs cells slots Q (F0 m 466 ls []) := by
  obtain ⟨C, hA, hG0, hXs, hbl, hr, hlocks, hXW, hZ⟩ := id h
  obtain ⟨hx, hb, hml, hown, hg, hK, hN, hi⟩ := id C
  refine lv_aload_n hx hb dL_law_466 rfl (lv_at hl 1 rfl) ?_
  refine lx_arg h hS hl (v := 1) (hin 1 (by decide)) dL_law_467 dL_law_468 dL_law_470 (by decide) dL_law_471 dL_law_472 ?_
  refine lx_arg h hS hl (v := 2) (hin 2 (by decide)) dL_law_473 dL_law_474 dL_law_476 (by decide) dL_law_477 dL_law_478 ?_
  refine lx_arg h hS hl (v := 3) (hin 3 (by decide)) dL_law_479 dL_law_480 dL_law_482 (by decide) dL_law_483 dL_law_484 ?_
  refine lx_arg h hS hl (v := 4) (hin 4 (by decide)) dL_law_485 dL_law_486 dL_law_488 (by decide) dL_law_489 dL_law_490 ?_
  refine sy_goi (sy_runV C hP (o := 0) (ci := 6) rfl rfl (m_X6_run l G hi (xs (x + 1).toNatClampNeg) (xs (x + 2).toNatClampNeg) (xs (x + 3).toNatClampNeg) (xs (x + 4).toNatClampNeg) T _ (op_run hR)) mw_X6_run w_411 w_412 w_410 (rest := []) rfl hl.1 rfl (Nat.le_of_ble_eq_true rfl) ⟨(Nat.le_of_ble_eq_true rfl), (Nat.le_of_ble_eq_true rfl)⟩ dL_law_491 ⟨(by show cells + 0 ≤ 603072; omega), (by show slots + 0 ≤ 7215210; omega)⟩) hS (sa_ab hA) (fun r1 T1 H locs hw hP hS => ?_)
  refine lv_aload_n hx hb dL_law_494 rfl (lv_at hl 2 rfl) ?_
  refine lx_arg h hS hl (v := 1) (hin 1 (by decide)) dL_law_495 dL_law_496 dL_law_498 (by decide) dL_law_499 dL_law_500 ?_
  refine lx_arg h hS hl (v := 2) (hin 2 (by decide)) dL_law_501 dL_law_502 dL_law_504 (by decide) dL_law_505 dL_law_506 ?_
  refine lx_arg h hS hl (v := 3) (hin 3 (by decide)) dL_law_507 dL_law_508 dL_law_510 (by decide) dL_law_511 dL_law_512 ?_
  refine lx_arg h hS hl (v := 4) (hin 4 (by decide)) dL_law_513 dL_law_514 dL_law_516 (by decide) dL_law_517 dL_law_518 ?_
  refine sy_goi (sy_runV C hP (o := 130) (ci := 7) rfl rfl (m_X7_run l G hi (xs (x + 1).toNatClampNeg) (xs (x + 2).toNatClampNeg) (xs (x + 3).toNatClampNeg) (xs (x + 4).toNatClampNeg) T1 _ hw) mw_X7_run w_949 w_950 w_948 (rest := [.int r1]) rfl hl.1 rfl (Nat.le_of_ble_eq_true rfl) ⟨(Nat.le_of_ble_eq_true rfl), (Nat.le_of_ble_eq_true rfl)⟩ dL_law_519 ⟨(by show cells + 0 ≤ 603072; omega), (by show slots + 0 ≤ 7215210; omega)⟩) hS (sa_ab hA) (fun r2 T2 H locs hw hP hS => ?_)
  refine lv_icmp_eq (tgt := 771) hx hb dL_law_522 (by decide) (fun _ => W.widen (k := cells + 1) (n := slots + 8) (by omega) (by omega) (kk _ _ _ _ hw.2 hP hS hl)) (fun z => absurd hw.1 z)
set_option maxRecDepth 100000 in
set_option maxHeartbeats 4000000 in
theorem lc_ran {p : Program} {l : Launch} {e : Env} {s : State} {m : MethodId} {below : List Frame} {meth : Method} {c : Code} {H : Heap} {locs : List Loc} {cells slots : Nat} {Q : State → Prop} {b L : Nat} {xs : Nat → Int32} {G : Gm} {sa : Nat × Nat × Nat × Nat} {ls : Array Slot} {x : Int32} {T : St} {i : Nat} (h : LC p s m meth c b L xs G sa) (hR : Rel i T T) (hP : va_P G.1 sc_cl (wd G T) H) (hS : va_S (AB G) s.heap H locs) (hl : lv_has ls 7 (lvs b G x)) (hin : ∀ k : Int32, k ∈ ([1, 2, 3, 4] : List Int32) → vp_in (x + k) L) (hcells : cells + 1 ≤ 603072) (hslots : slots + 8 ≤ 7215210)
    (kk : ∀ (T : St) (H : Heap) (locs : List Loc) (ls : Array Slot), Rel (i + 1) T T → va_P G.1 sc_cl (wd G T) H → va_S (AB G) s.heap H locs → lv_has ls 7 (lvs b G x) → W p l e room_1 s m #[Value.ref b] below meth c H locs (cells + 1) (slots + 8) Q (F0 m 771 ls [])) : W p l e room_1 s m #[Value.ref b] below meth c H locs cells slots Q (F0 m 527 ls []) := by
  obtain ⟨C, hA, hG0, hXs, hbl, hr, hlocks, hXW, hZ⟩ := id h
  obtain ⟨hx, hb, hml, hown, hg, hK, hN, hi⟩ := id C
  refine lv_aload_n hx hb dL_law_527 rfl (lv_at hl 1 rfl) ?_
  refine lx_arg h hS hl (v := 1) (hin 1 (by decide)) dL_law_528 dL_law_529 dL_law_531 (by decide) dL_law_532 dL_law_533 ?_
  refine sy_goi (sy_runV C hP (o := 0) (ci := 6) rfl rfl (m_X6_ran l G hi (xs (x + 1).toNatClampNeg) T _ (op_ran hR)) mw_X6_ran w_478 w_479 w_477 (rest := []) rfl hl.1 rfl (Nat.le_of_ble_eq_true rfl) ⟨(Nat.le_of_ble_eq_true rfl), (Nat.le_of_ble_eq_true rfl)⟩ dL_law_534 ⟨(by show cells + 0 ≤ 603072; omega), (by show slots + 0 ≤ 7215210; omega)⟩) hS (sa_ab hA) (fun r1 T1 H locs hw hP hS => ?_)
  refine lv_aload_n hx hb dL_law_537 rfl (lv_at hl 2 rfl) ?_
  refine lx_arg h hS hl (v := 1) (hin 1 (by decide)) dL_law_538 dL_law_539 dL_law_541 (by decide) dL_law_542 dL_law_543 ?_
  refine sy_goi (sy_runV C hP (o := 130) (ci := 7) rfl rfl (m_X7_ran l G hi (xs (x + 1).toNatClampNeg) T1 _ hw) mw_X7_ran w_969 w_970 w_968 (rest := [.int r1]) rfl hl.1 rfl (Nat.le_of_ble_eq_true rfl) ⟨(Nat.le_of_ble_eq_true rfl), (Nat.le_of_ble_eq_true rfl)⟩ dL_law_544 ⟨(by show cells + 0 ≤ 603072; omega), (by show slots + 0 ≤ 7215210; omega)⟩) hS (sa_ab hA) (fun r2 T2 H locs hw hP hS => ?_)
  refine lv_icmp_eq (tgt := 771) hx hb dL_law_547 (by decide) (fun _ => W.widen (k := cells + 1) (n := slots + 8) (by omega) (by omega) (kk _ _ _ _ hw.2 hP hS hl)) (fun z => absurd hw.1 z)
set_option maxRecDepth 100000 in
set_option maxHeartbeats 4000000 in
theorem lc_alike {p : Program} {l : Launch} {e : Env} {s : State} {m : MethodId} {below : List Frame} {meth : Method} {c : Code} {H : Heap} {locs : List Loc} {cells slots : Nat} {Q : State → Prop} {b L : Nat} {xs : Nat → Int32} {G : Gm} {sa : Nat × Nat × Nat × Nat} {ls : Array Slot} {x : Int32} {T : St} {i : Nat} (h : LC p s m meth c b L xs G sa) (hR : Rel i T T) (hP : va_P G.1 sc_cl (wd G T) H) (hS : va_S (AB G) s.heap H locs) (hl : lv_has ls 7 (lvs b G x)) (hin : ∀ k : Int32, k ∈ ([1, 2, 3, 4] : List Int32) → vp_in (x + k) L) (hcells : cells + 1 ≤ 603072) (hslots : slots + 8 ≤ 7215210)
    (kk : ∀ (T : St) (H : Heap) (locs : List Loc) (ls : Array Slot), Rel (i + 1) T T → va_P G.1 sc_cl (wd G T) H → va_S (AB G) s.heap H locs → lv_has ls 7 (lvs b G x) → W p l e room_1 s m #[Value.ref b] below meth c H locs (cells + 1) (slots + 8) Q (F0 m 771 ls [])) : W p l e room_1 s m #[Value.ref b] below meth c H locs cells slots Q (F0 m 552 ls []) := by
  obtain ⟨C, hA, hG0, hXs, hbl, hr, hlocks, hXW, hZ⟩ := id h
  obtain ⟨hx, hb, hml, hown, hg, hK, hN, hi⟩ := id C
  refine lv_aload_n hx hb dL_law_552 rfl (lv_at hl 1 rfl) ?_
  refine lx_arg h hS hl (v := 1) (hin 1 (by decide)) dL_law_553 dL_law_554 dL_law_556 (by decide) dL_law_557 dL_law_558 ?_
  refine lx_arg h hS hl (v := 2) (hin 2 (by decide)) dL_law_559 dL_law_560 dL_law_562 (by decide) dL_law_563 dL_law_564 ?_
  refine lx_arg h hS hl (v := 3) (hin 3 (by decide)) dL_law_565 dL_law_566 dL_law_568 (by decide) dL_law_569 dL_law_570 ?_
  refine lx_arg h hS hl (v := 4) (hin 4 (by decide)) dL_law_571 dL_law_572 dL_law_574 (by decide) dL_law_575 dL_law_576 ?_
  refine sy_goi (sy_runV C hP (o := 0) (ci := 6) rfl rfl (m_X6_alike l G hi (xs (x + 1).toNatClampNeg) (xs (x + 2).toNatClampNeg) (xs (x + 3).toNatClampNeg) (xs (x + 4).toNatClampNeg) T _ (op_alike hR)) mw_X6_alike w_487 w_488 w_486 (rest := []) rfl hl.1 rfl (Nat.le_of_ble_eq_true rfl) ⟨(Nat.le_of_ble_eq_true rfl), (Nat.le_of_ble_eq_true rfl)⟩ dL_law_577 ⟨(by show cells + 0 ≤ 603072; omega), (by show slots + 0 ≤ 7215210; omega)⟩) hS (sa_ab hA) (fun r1 T1 H locs hw hP hS => ?_)
  refine lv_aload_n hx hb dL_law_580 rfl (lv_at hl 2 rfl) ?_
  refine lx_arg h hS hl (v := 1) (hin 1 (by decide)) dL_law_581 dL_law_582 dL_law_584 (by decide) dL_law_585 dL_law_586 ?_
  refine lx_arg h hS hl (v := 2) (hin 2 (by decide)) dL_law_587 dL_law_588 dL_law_590 (by decide) dL_law_591 dL_law_592 ?_
  refine lx_arg h hS hl (v := 3) (hin 3 (by decide)) dL_law_593 dL_law_594 dL_law_596 (by decide) dL_law_597 dL_law_598 ?_
  refine lx_arg h hS hl (v := 4) (hin 4 (by decide)) dL_law_599 dL_law_600 dL_law_602 (by decide) dL_law_603 dL_law_604 ?_
  refine sy_goi (sy_runV C hP (o := 130) (ci := 7) rfl rfl (m_X7_alike l G hi (xs (x + 1).toNatClampNeg) (xs (x + 2).toNatClampNeg) (xs (x + 3).toNatClampNeg) (xs (x + 4).toNatClampNeg) T1 _ hw) mw_X7_alike w_974 w_975 w_973 (rest := [.int r1]) rfl hl.1 rfl (Nat.le_of_ble_eq_true rfl) ⟨(Nat.le_of_ble_eq_true rfl), (Nat.le_of_ble_eq_true rfl)⟩ dL_law_605 ⟨(by show cells + 0 ≤ 603072; omega), (by show slots + 0 ≤ 7215210; omega)⟩) hS (sa_ab hA) (fun r2 T2 H locs hw hP hS => ?_)
  refine lv_icmp_eq (tgt := 771) hx hb dL_law_608 (by decide) (fun _ => W.widen (k := cells + 1) (n := slots + 8) (by omega) (by omega) (kk _ _ _ _ hw.2 hP hS hl)) (fun z => absurd hw.1 z)
set_option maxRecDepth 100000 in
set_option maxHeartbeats 4000000 in
theorem lc_page {p : Program} {l : Launch} {e : Env} {s : State} {m : MethodId} {below : List Frame} {meth : Method} {c : Code} {H : Heap} {locs : List Loc} {cells slots : Nat} {Q : State → Prop} {b L : Nat} {xs : Nat → Int32} {G : Gm} {sa : Nat × Nat × Nat × Nat} {ls : Array Slot} {x : Int32} {T : St} {i : Nat} (h : LC p s m meth c b L xs G sa) (hR : Rel i T T) (hP : va_P G.1 sc_cl (wd G T) H) (hS : va_S (AB G) s.heap H locs) (hl : lv_has ls 7 (lvs b G x)) (hin : ∀ k : Int32, k ∈ ([1, 2, 3, 4] : List Int32) → vp_in (x + k) L) (hcells : cells + 1 ≤ 603072) (hslots : slots + 8 ≤ 7215210)
    (kk : ∀ (T : St) (H : Heap) (locs : List Loc) (ls : Array Slot), Rel (i + 1) T T → va_P G.1 sc_cl (wd G T) H → va_S (AB G) s.heap H locs → lv_has ls 7 (lvs b G x) → W p l e room_1 s m #[Value.ref b] below meth c H locs (cells + 1) (slots + 8) Q (F0 m 771 ls [])) : W p l e room_1 s m #[Value.ref b] below meth c H locs cells slots Q (F0 m 613 ls []) := by
  obtain ⟨C, hA, hG0, hXs, hbl, hr, hlocks, hXW, hZ⟩ := id h
  obtain ⟨hx, hb, hml, hown, hg, hK, hN, hi⟩ := id C
  refine lv_aload_n hx hb dL_law_613 rfl (lv_at hl 1 rfl) ?_
  refine lx_arg h hS hl (v := 1) (hin 1 (by decide)) dL_law_614 dL_law_615 dL_law_617 (by decide) dL_law_618 dL_law_619 ?_
  refine sy_goi (sy_runV C hP (o := 0) (ci := 6) rfl rfl (m_X6_page l G hi (xs (x + 1).toNatClampNeg) T _ (op_page hR)) mw_X6_page w_506 w_507 w_505 (rest := []) rfl hl.1 rfl (Nat.le_of_ble_eq_true rfl) ⟨(Nat.le_of_ble_eq_true rfl), (Nat.le_of_ble_eq_true rfl)⟩ dL_law_620 ⟨(by show cells + 0 ≤ 603072; omega), (by show slots + 0 ≤ 7215210; omega)⟩) hS (sa_ab hA) (fun r1 T1 H locs hw hP hS => ?_)
  refine lv_aload_n hx hb dL_law_623 rfl (lv_at hl 2 rfl) ?_
  refine lx_arg h hS hl (v := 1) (hin 1 (by decide)) dL_law_624 dL_law_625 dL_law_627 (by decide) dL_law_628 dL_law_629 ?_
  refine sy_goi (sy_runV C hP (o := 130) (ci := 7) rfl rfl (m_X7_page l G hi (xs (x + 1).toNatClampNeg) T1 _ hw) mw_X7_page w_978 w_979 w_977 (rest := [.int r1]) rfl hl.1 rfl (Nat.le_of_ble_eq_true rfl) ⟨(Nat.le_of_ble_eq_true rfl), (Nat.le_of_ble_eq_true rfl)⟩ dL_law_630 ⟨(by show cells + 0 ≤ 603072; omega), (by show slots + 0 ≤ 7215210; omega)⟩) hS (sa_ab hA) (fun r2 T2 H locs hw hP hS => ?_)
  refine lv_icmp_eq (tgt := 771) hx hb dL_law_633 (by decide) (fun _ => W.widen (k := cells + 1) (n := slots + 8) (by omega) (by omega) (kk _ _ _ _ hw.2 hP hS hl)) (fun z => absurd hw.1 z)
set_option maxRecDepth 100000 in
set_option maxHeartbeats 4000000 in
theorem lc_snapshot {p : Program} {l : Launch} {e : Env} {s : State} {m : MethodId} {below : List Frame} {meth : Method} {c : Code} {H : Heap} {locs : List Loc} {cells slots : Nat} {Q : State → Prop} {b L : Nat} {xs : Nat → Int32} {G : Gm} {sa : Nat × Nat × Nat × Nat} {ls : Array Slot} {x : Int32} {T : St} {i : Nat} (h : LC p s m meth c b L xs G sa) (hR : Rel i T T) (hP : va_P G.1 sc_cl (wd G T) H) (hS : va_S (AB G) s.heap H locs) (hl : lv_has ls 7 (lvs b G x)) (hin : ∀ k : Int32, k ∈ ([1, 2, 3, 4] : List Int32) → vp_in (x + k) L) (hcells : cells + 1 ≤ 603072) (hslots : slots + 8 ≤ 7215210)
    (kk : ∀ (T : St) (H : Heap) (locs : List Loc) (ls : Array Slot), Rel (i + 1) T T → va_P G.1 sc_cl (wd G T) H → va_S (AB G) s.heap H locs → lv_has ls 7 (lvs b G x) → W p l e room_1 s m #[Value.ref b] below meth c H locs (cells + 1) (slots + 8) Q (F0 m 771 ls [])) : W p l e room_1 s m #[Value.ref b] below meth c H locs cells slots Q (F0 m 638 ls []) := by
  obtain ⟨C, hA, hG0, hXs, hbl, hr, hlocks, hXW, hZ⟩ := id h
  obtain ⟨hx, hb, hml, hown, hg, hK, hN, hi⟩ := id C
  refine lv_aload_n hx hb dL_law_638 rfl (lv_at hl 1 rfl) ?_
  refine sy_goi (sy_runV C hP (o := 0) (ci := 6) rfl rfl (m_X6_snapshot l G hi  T _ (op_snapshot hR)) mw_X6_snapshot w_511 w_512 w_510 (rest := []) rfl hl.1 rfl (Nat.le_of_ble_eq_true rfl) ⟨(Nat.le_of_ble_eq_true rfl), (Nat.le_of_ble_eq_true rfl)⟩ dL_law_639 ⟨(by show cells + 0 ≤ 603072; omega), (by show slots + 0 ≤ 7215210; omega)⟩) hS (sa_ab hA) (fun r1 T1 H locs hw hP hS => ?_)
  refine lv_aload_n hx hb dL_law_642 rfl (lv_at hl 2 rfl) ?_
  refine sy_goi (sy_runV C hP (o := 130) (ci := 7) rfl rfl (m_X7_snapshot l G hi  T1 _ hw) mw_X7_snapshot w_982 w_983 w_981 (rest := [.int r1]) rfl hl.1 rfl (Nat.le_of_ble_eq_true rfl) ⟨(Nat.le_of_ble_eq_true rfl), (Nat.le_of_ble_eq_true rfl)⟩ dL_law_643 ⟨(by show cells + 0 ≤ 603072; omega), (by show slots + 0 ≤ 7215210; omega)⟩) hS (sa_ab hA) (fun r2 T2 H locs hw hP hS => ?_)
  refine lv_icmp_eq (tgt := 771) hx hb dL_law_646 (by decide) (fun _ => W.widen (k := cells + 1) (n := slots + 8) (by omega) (by omega) (kk _ _ _ _ hw.2 hP hS hl)) (fun z => absurd hw.1 z)
set_option maxRecDepth 100000 in
set_option maxHeartbeats 4000000 in
theorem lc_restore {p : Program} {l : Launch} {e : Env} {s : State} {m : MethodId} {below : List Frame} {meth : Method} {c : Code} {H : Heap} {locs : List Loc} {cells slots : Nat} {Q : State → Prop} {b L : Nat} {xs : Nat → Int32} {G : Gm} {sa : Nat × Nat × Nat × Nat} {ls : Array Slot} {x : Int32} {T : St} {i : Nat} (h : LC p s m meth c b L xs G sa) (hR : Rel i T T) (hP : va_P G.1 sc_cl (wd G T) H) (hS : va_S (AB G) s.heap H locs) (hl : lv_has ls 7 (lvs b G x)) (hin : ∀ k : Int32, k ∈ ([1, 2, 3, 4] : List Int32) → vp_in (x + k) L) (hcells : cells + 1 ≤ 603072) (hslots : slots + 8 ≤ 7215210)
    (kk : ∀ (T : St) (H : Heap) (locs : List Loc) (ls : Array Slot), Rel (i + 1) T T → va_P G.1 sc_cl (wd G T) H → va_S (AB G) s.heap H locs → lv_has ls 7 (lvs b G x) → W p l e room_1 s m #[Value.ref b] below meth c H locs (cells + 1) (slots + 8) Q (F0 m 771 ls [])) : W p l e room_1 s m #[Value.ref b] below meth c H locs cells slots Q (F0 m 651 ls []) := by
  obtain ⟨C, hA, hG0, hXs, hbl, hr, hlocks, hXW, hZ⟩ := id h
  obtain ⟨hx, hb, hml, hown, hg, hK, hN, hi⟩ := id C
  refine lv_aload_n hx hb dL_law_651 rfl (lv_at hl 1 rfl) ?_
  refine lx_arg h hS hl (v := 1) (hin 1 (by decide)) dL_law_652 dL_law_653 dL_law_655 (by decide) dL_law_656 dL_law_657 ?_
  refine sy_goi (sy_runV C hP (o := 0) (ci := 6) rfl rfl (m_X6_restore l G hi (xs (x + 1).toNatClampNeg) T _ (op_restore hR)) mw_X6_restore w_516 w_517 w_515 (rest := []) rfl hl.1 rfl (Nat.le_of_ble_eq_true rfl) ⟨(Nat.le_of_ble_eq_true rfl), (Nat.le_of_ble_eq_true rfl)⟩ dL_law_658 ⟨(by show cells + 0 ≤ 603072; omega), (by show slots + 0 ≤ 7215210; omega)⟩) hS (sa_ab hA) (fun r1 T1 H locs hw hP hS => ?_)
  refine lv_aload_n hx hb dL_law_661 rfl (lv_at hl 2 rfl) ?_
  refine lx_arg h hS hl (v := 1) (hin 1 (by decide)) dL_law_662 dL_law_663 dL_law_665 (by decide) dL_law_666 dL_law_667 ?_
  refine sy_goi (sy_runV C hP (o := 130) (ci := 7) rfl rfl (m_X7_restore l G hi (xs (x + 1).toNatClampNeg) T1 _ hw) mw_X7_restore w_986 w_987 w_985 (rest := [.int r1]) rfl hl.1 rfl (Nat.le_of_ble_eq_true rfl) ⟨(Nat.le_of_ble_eq_true rfl), (Nat.le_of_ble_eq_true rfl)⟩ dL_law_668 ⟨(by show cells + 0 ≤ 603072; omega), (by show slots + 0 ≤ 7215210; omega)⟩) hS (sa_ab hA) (fun r2 T2 H locs hw hP hS => ?_)
  refine lv_icmp_eq (tgt := 771) hx hb dL_law_671 (by decide) (fun _ => W.widen (k := cells + 1) (n := slots + 8) (by omega) (by omega) (kk _ _ _ _ hw.2 hP hS hl)) (fun z => absurd hw.1 z)
set_option maxRecDepth 100000 in
set_option maxHeartbeats 4000000 in
theorem lc_undo {p : Program} {l : Launch} {e : Env} {s : State} {m : MethodId} {below : List Frame} {meth : Method} {c : Code} {H : Heap} {locs : List Loc} {cells slots : Nat} {Q : State → Prop} {b L : Nat} {xs : Nat → Int32} {G : Gm} {sa : Nat × Nat × Nat × Nat} {ls : Array Slot} {x : Int32} {T : St} {i : Nat} (h : LC p s m meth c b L xs G sa) (hR : Rel i T T) (hP : va_P G.1 sc_cl (wd G T) H) (hS : va_S (AB G) s.heap H locs) (hl : lv_has ls 7 (lvs b G x)) (hin : ∀ k : Int32, k ∈ ([1, 2, 3, 4] : List Int32) → vp_in (x + k) L) (hcells : cells + 1 ≤ 603072) (hslots : slots + 8 ≤ 7215210)
    (kk : ∀ (T : St) (H : Heap) (locs : List Loc) (ls : Array Slot), Rel (i + 1) T T → va_P G.1 sc_cl (wd G T) H → va_S (AB G) s.heap H locs → lv_has ls 7 (lvs b G x) → W p l e room_1 s m #[Value.ref b] below meth c H locs (cells + 1) (slots + 8) Q (F0 m 771 ls [])) : W p l e room_1 s m #[Value.ref b] below meth c H locs cells slots Q (F0 m 676 ls []) := by
  obtain ⟨C, hA, hG0, hXs, hbl, hr, hlocks, hXW, hZ⟩ := id h
  obtain ⟨hx, hb, hml, hown, hg, hK, hN, hi⟩ := id C
  refine lv_aload_n hx hb dL_law_676 rfl (lv_at hl 1 rfl) ?_
  refine sy_goi (sy_runV C hP (o := 0) (ci := 6) rfl rfl (m_X6_undo l G hi  T _ (op_undo hR)) mw_X6_undo w_541 w_542 w_540 (rest := []) rfl hl.1 rfl (Nat.le_of_ble_eq_true rfl) ⟨(Nat.le_of_ble_eq_true rfl), (Nat.le_of_ble_eq_true rfl)⟩ dL_law_677 ⟨(by show cells + 0 ≤ 603072; omega), (by show slots + 0 ≤ 7215210; omega)⟩) hS (sa_ab hA) (fun r1 T1 H locs hw hP hS => ?_)
  refine lv_aload_n hx hb dL_law_680 rfl (lv_at hl 2 rfl) ?_
  refine sy_goi (sy_runV C hP (o := 130) (ci := 7) rfl rfl (m_X7_undo l G hi  T1 _ hw) mw_X7_undo w_998 w_999 w_997 (rest := [.int r1]) rfl hl.1 rfl (Nat.le_of_ble_eq_true rfl) ⟨(Nat.le_of_ble_eq_true rfl), (Nat.le_of_ble_eq_true rfl)⟩ dL_law_681 ⟨(by show cells + 0 ≤ 603072; omega), (by show slots + 0 ≤ 7215210; omega)⟩) hS (sa_ab hA) (fun r2 T2 H locs hw hP hS => ?_)
  refine lv_icmp_eq (tgt := 771) hx hb dL_law_684 (by decide) (fun _ => W.widen (k := cells + 1) (n := slots + 8) (by omega) (by omega) (kk _ _ _ _ hw.2 hP hS hl)) (fun z => absurd hw.1 z)
set_option maxRecDepth 100000 in
set_option maxHeartbeats 4000000 in
theorem lc_share {p : Program} {l : Launch} {e : Env} {s : State} {m : MethodId} {below : List Frame} {meth : Method} {c : Code} {H : Heap} {locs : List Loc} {cells slots : Nat} {Q : State → Prop} {b L : Nat} {xs : Nat → Int32} {G : Gm} {sa : Nat × Nat × Nat × Nat} {ls : Array Slot} {x : Int32} {T : St} {i : Nat} (htr : l.stackTraces = false) (hi5 : i ≤ 511) (h : LC p s m meth c b L xs G sa) (hR : Rel i T T) (hP : va_P G.1 sc_cl (wd G T) H) (hS : va_S (AB G) s.heap H locs) (hl : lv_has ls 7 (lvs b G x)) (hin : ∀ k : Int32, k ∈ ([1, 2, 3, 4] : List Int32) → vp_in (x + k) L) (hcells : cells + 1 ≤ 603072) (hslots : slots + 8 ≤ 7215210)
    (kk : ∀ (T : St) (H : Heap) (locs : List Loc) (ls : Array Slot), Rel (i + 1) T T → va_P G.1 sc_cl (wd G T) H → va_S (AB G) s.heap H locs → lv_has ls 7 (lvs b G x) → W p l e room_1 s m #[Value.ref b] below meth c H locs (cells + 1) (slots + 8) Q (F0 m 771 ls [])) : W p l e room_1 s m #[Value.ref b] below meth c H locs cells slots Q (F0 m 689 ls []) := by
  obtain ⟨C, hA, hG0, hXs, hbl, hr, hlocks, hXW, hZ⟩ := id h
  obtain ⟨hx, hb, hml, hown, hg, hK, hN, hi⟩ := id C
  refine lv_aload_n hx hb dL_law_689 rfl (lv_at hl 1 rfl) ?_
  refine lv_aload_n hx hb dL_law_690 rfl (lv_at hl 3 rfl) ?_
  refine lx_run h htr hP hS (As := [.ref (G.2.2 0), .ref (G.2.2 151)]) (n := 2) (l_share l htr G hi sa  T _ (op_share (by omega) hR)) q_715 w_713 w_714 (by decide) (by decide) (by decide +kernel) rfl hl.1 rfl ⟨(Nat.le_of_ble_eq_true rfl), (Nat.le_of_ble_eq_true rfl)⟩ dL_law_691 (by omega) (by omega) (fun k T1 H locs hw hP hS => ?_)
  refine lv_istore (lv' := (5, .int k) :: lvs b G x) hx hb dL_law_694 hl (by decide) rfl (fun ls hl => ?_)
  have hl2 : lv_has ls 7 (lvs b G x) := lv_sub hl [1, 2, 3, 4, 5] rfl
  refine W.widen (k := cells + 1) (n := slots + 8) (by omega) (by omega) ?_
  refine lv_aload_n hx hb dL_law_696 rfl (lv_at hl2 2 rfl) ?_
  refine sy_goi (sy_runV C hP (o := 130) (ci := 7) rfl rfl (m_X7_share l G hi  T1 _ hw) mw_X7_share w_1002 w_1003 w_1001 (rest := []) rfl hl.1 rfl (Nat.le_of_ble_eq_true rfl) ⟨(Nat.le_of_ble_eq_true rfl), (Nat.le_of_ble_eq_true rfl)⟩ dL_law_697 ⟨(by show cells + 1 + 0 ≤ 603072; omega), (by show slots + 8 + 0 ≤ 7215210; omega)⟩) hS (sa_ab hA) (fun rb T2 H locs hw hP hS => ?_)
  refine lv_istore (lv' := (6, .int rb) :: (5, .int k) :: lvs b G x) hx hb dL_law_700 hl (by decide) rfl (fun ls hl => ?_)
  refine lv_aload_n hx hb dL_law_702 rfl (lv_at hl 4 rfl) ?_
  refine sy_goi (sy_runV C hP (o := 130) (ci := 7) rfl rfl (m_X7_thrown l G hi  T2 _ hw) mw_X7_thrown w_866 w_867 w_865 (rest := []) rfl hl.1 rfl (Nat.le_of_ble_eq_true rfl) ⟨(Nat.le_of_ble_eq_true rfl), (Nat.le_of_ble_eq_true rfl)⟩ dL_law_703 ⟨(by show cells + 1 + 0 ≤ 603072; omega), (by show slots + 8 + 0 ≤ 7215210; omega)⟩) hS (sa_ab hA) (fun th T3 H locs hw hP hS => ?_)
  refine lv_iload hx hb dL_law_706 (lv_at hl 1 rfl) ?_
  have fin := kk T3 H locs ls hw.2.2 hP hS (lv_sub hl [2, 3, 4, 5, 6] rfl)
  refine lv_icmp_eq (tgt := 713) hx hb dL_law_708 (by decide) (fun _ => ?_) (fun z => absurd hw.1 z)
  refine lv_iload hx hb dL_law_713 (lv_at hl 1 rfl) ?_
  refine lv_if_ne (tgt := 730) hx hb dL_law_715 (by decide) (fun _ => lv_goto (tgt := 771) hx hb dL_law_730 (by decide) fin) (fun hk => ?_)
  refine lv_aload_n hx hb dL_law_718 rfl (lv_at hl 5 rfl) ?_
  refine lv_iconst (v := 0) hx hb dL_law_719 (by decide) ?_
  refine sy_lald C hP (o := 151) (n := 1) rfl rfl (vin (i := 0) (by omega) (by omega)) dL_law_720 ?_
  refine lv_iload hx hb dL_law_721 (lv_at hl 0 rfl) ?_
  refine lv_i2l hx hb dL_law_723 rfl ?_
  refine W.lcmp hx hb dL_law_724 ?_
  refine lv_if_eq (tgt := 730) hx hb dL_law_725 (by decide) (fun _ => lv_goto (tgt := 771) hx hb dL_law_730 (by decide) fin) (fun z => absurd ((lg_cmp_eq _ _).mpr (hw.2.1 hk)) z)
set_option maxRecDepth 100000 in
set_option maxHeartbeats 4000000 in
theorem lc_count {p : Program} {l : Launch} {e : Env} {s : State} {m : MethodId} {below : List Frame} {meth : Method} {c : Code} {H : Heap} {locs : List Loc} {cells slots : Nat} {Q : State → Prop} {b L : Nat} {xs : Nat → Int32} {G : Gm} {sa : Nat × Nat × Nat × Nat} {ls : Array Slot} {x : Int32} {T : St} {i : Nat} (h : LC p s m meth c b L xs G sa) (hR : Rel i T T) (hP : va_P G.1 sc_cl (wd G T) H) (hS : va_S (AB G) s.heap H locs) (hl : lv_has ls 7 (lvs b G x)) (hin : ∀ k : Int32, k ∈ ([1, 2, 3, 4] : List Int32) → vp_in (x + k) L) (hcells : cells + 1 ≤ 603072) (hslots : slots + 8 ≤ 7215210)
    (kk : ∀ (T : St) (H : Heap) (locs : List Loc) (ls : Array Slot), Rel (i + 1) T T → va_P G.1 sc_cl (wd G T) H → va_S (AB G) s.heap H locs → lv_has ls 7 (lvs b G x) → W p l e room_1 s m #[Value.ref b] below meth c H locs (cells + 1) (slots + 8) Q (F0 m 771 ls [])) : W p l e room_1 s m #[Value.ref b] below meth c H locs cells slots Q (F0 m 733 ls []) := by
  obtain ⟨C, hA, hG0, hXs, hbl, hr, hlocks, hXW, hZ⟩ := id h
  obtain ⟨hx, hb, hml, hown, hg, hK, hN, hi⟩ := id C
  refine lv_aload_n hx hb dL_law_733 rfl (lv_at hl 1 rfl) ?_
  refine lx_arg h hS hl (v := 1) (hin 1 (by decide)) dL_law_734 dL_law_735 dL_law_737 (by decide) dL_law_738 dL_law_739 ?_
  refine sy_goi (sy_runV C hP (o := 0) (ci := 6) rfl rfl (m_X6_count l G hi (xs (x + 1).toNatClampNeg) T _ (op_count hR)) mw_X6_count w_549 w_550 w_548 (rest := []) rfl hl.1 rfl (Nat.le_of_ble_eq_true rfl) ⟨(Nat.le_of_ble_eq_true rfl), (Nat.le_of_ble_eq_true rfl)⟩ dL_law_740 ⟨(by show cells + 0 ≤ 603072; omega), (by show slots + 0 ≤ 7215210; omega)⟩) hS (sa_ab hA) (fun r1 T1 H locs hw hP hS => ?_)
  refine lv_aload_n hx hb dL_law_743 rfl (lv_at hl 2 rfl) ?_
  refine lx_arg h hS hl (v := 1) (hin 1 (by decide)) dL_law_744 dL_law_745 dL_law_747 (by decide) dL_law_748 dL_law_749 ?_
  refine sy_goi (sy_runV C hP (o := 130) (ci := 7) rfl rfl (m_X7_count l G hi (xs (x + 1).toNatClampNeg) T1 _ hw) mw_X7_count w_1006 w_1007 w_1005 (rest := [.int r1]) rfl hl.1 rfl (Nat.le_of_ble_eq_true rfl) ⟨(Nat.le_of_ble_eq_true rfl), (Nat.le_of_ble_eq_true rfl)⟩ dL_law_750 ⟨(by show cells + 0 ≤ 603072; omega), (by show slots + 0 ≤ 7215210; omega)⟩) hS (sa_ab hA) (fun r2 T2 H locs hw hP hS => ?_)
  refine lv_icmp_eq (tgt := 771) hx hb dL_law_753 (by decide) (fun _ => W.widen (k := cells + 1) (n := slots + 8) (by omega) (by omega) (kk _ _ _ _ hw.2 hP hS hl)) (fun z => absurd hw.1 z)
set_option maxRecDepth 100000 in
set_option maxHeartbeats 4000000 in
theorem lc_clear {p : Program} {l : Launch} {e : Env} {s : State} {m : MethodId} {below : List Frame} {meth : Method} {c : Code} {H : Heap} {locs : List Loc} {cells slots : Nat} {Q : State → Prop} {b L : Nat} {xs : Nat → Int32} {G : Gm} {sa : Nat × Nat × Nat × Nat} {ls : Array Slot} {x : Int32} {T : St} {i : Nat} (h : LC p s m meth c b L xs G sa) (hR : Rel i T T) (hP : va_P G.1 sc_cl (wd G T) H) (hS : va_S (AB G) s.heap H locs) (hl : lv_has ls 7 (lvs b G x)) (hin : ∀ k : Int32, k ∈ ([1, 2, 3, 4] : List Int32) → vp_in (x + k) L) (hcells : cells + 1 ≤ 603072) (hslots : slots + 8 ≤ 7215210)
    (kk : ∀ (T : St) (H : Heap) (locs : List Loc) (ls : Array Slot), Rel (i + 1) T T → va_P G.1 sc_cl (wd G T) H → va_S (AB G) s.heap H locs → lv_has ls 7 (lvs b G x) → W p l e room_1 s m #[Value.ref b] below meth c H locs (cells + 1) (slots + 8) Q (F0 m 771 ls [])) : W p l e room_1 s m #[Value.ref b] below meth c H locs cells slots Q (F0 m 758 ls []) := by
  obtain ⟨C, hA, hG0, hXs, hbl, hr, hlocks, hXW, hZ⟩ := id h
  obtain ⟨hx, hb, hml, hown, hg, hK, hN, hi⟩ := id C
  refine lv_aload_n hx hb dL_law_758 rfl (lv_at hl 1 rfl) ?_
  refine sy_goi (sy_runV C hP (o := 0) (ci := 6) rfl rfl (m_X6_clear l G hi  T _ (op_clear hR)) mw_X6_clear w_557 w_558 w_556 (rest := []) rfl hl.1 rfl (Nat.le_of_ble_eq_true rfl) ⟨(Nat.le_of_ble_eq_true rfl), (Nat.le_of_ble_eq_true rfl)⟩ dL_law_759 ⟨(by show cells + 0 ≤ 603072; omega), (by show slots + 0 ≤ 7215210; omega)⟩) hS (sa_ab hA) (fun r1 T1 H locs hw hP hS => ?_)
  refine lv_aload_n hx hb dL_law_762 rfl (lv_at hl 2 rfl) ?_
  refine sy_goi (sy_runV C hP (o := 130) (ci := 7) rfl rfl (m_X7_clear l G hi  T1 _ hw) mw_X7_clear w_1010 w_1011 w_1009 (rest := [.int r1]) rfl hl.1 rfl (Nat.le_of_ble_eq_true rfl) ⟨(Nat.le_of_ble_eq_true rfl), (Nat.le_of_ble_eq_true rfl)⟩ dL_law_763 ⟨(by show cells + 0 ≤ 603072; omega), (by show slots + 0 ≤ 7215210; omega)⟩) hS (sa_ab hA) (fun r2 T2 H locs hw hP hS => ?_)
  refine lv_icmp_eq (tgt := 771) hx hb dL_law_766 (by decide) (fun _ => W.widen (k := cells + 1) (n := slots + 8) (by omega) (by omega) (kk _ _ _ _ hw.2 hP hS hl)) (fun z => absurd hw.1 z)
