/-! new NullPointerException(text), thrown -/
section SZN
variable {p : Program} {l : Launch} {e : Env} {R : Room} {s : State} {m : MethodId} {args : Array Value} {below : List Frame} {meth : Method} {c : Code} {H H0 : Heap} {locs : List Loc} {cells slots : Nat} {Q : State → Prop} {A : Nat → Prop}
variable {cc : ByteArray} {pc nL sl : Nat} {ls : Array Slot} {rest : List Value} {own : String} {G : Gm} {T : St} {sa : Nat × Nat × Nat × Nat}
theorem sz_np {post : Int32 → St → Prop} {px : String → St → Prop} {is a : Nat} {tx : String} (C : Cx p s m args c cc nL RX6 G) (hl : l.stackTraces = false) (hlocks : meth.locks = false) (hX : XW sa s) (hZ : ZW (SA G) s s.heap) (hstr : vk_R RX6 is tx a s) (ht : ∀ x ∈ c.exceptionTable.toList, False) (hP : va_P G.1 sc_cl (wd G T) H) (hS : va_S (SA G) s.heap H locs) (hp : px eNP T) (hsize : ls.size = nL) (d0 : decode cc pc = .ok (.new 139, 3)) (d3 : decode cc (pc + 3) = .ok (.dup, 1)) (d4 : decode cc (pc + 4) = .ok (.ldc is, 2)) (d6 : decode cc (pc + 6) = .ok (.invokespecial 143, 3)) (d9 : decode cc (pc + 9) = .ok (.athrow, 1)) (hf : 10 < R.frames) (hlo : (rest.map fun v => v.category).sum + 10300 ≤ R.locals) (hc : 1 ≤ R.cells) (hs : 8 ≤ R.slots) (hsl : 8 ≤ sl) : W p l e R s m args below meth c H locs 0 0 (vx_MQ below (va_Qi post (Sy G) (SA G)) (XQ G px) args s 1 sl (SA G)) (F0 m pc ls rest) := by
  sorry
end SZN
