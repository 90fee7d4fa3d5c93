/-! rows copied -/
section KC
variable {p : Program} {l : Launch} {e : Env} {R : Room} {s : State} {m : MethodId} {args : Array Value} {below : List Frame} {meth : Method} {c : Code} {H : Heap} {locs : List Loc} {cells slots : Nat} {Q : State → Prop}
variable {cc : ByteArray} {pc : Nat} {ls : Array Slot} {rest : List Value} {D : va_G} {cl : List vw_C} {A : Nat → Prop} {cI cJ cZ : ClassId} {a a0 : Nat}
theorem kx_copyi (hx : p.tables.exec = Jvm.exec) (hb : c.code = cc) (hml : c.maxLocals = ls.size) {own : String} {index : Nat} (hown : s.vm.findClass own = some m.cls) (hlink : (Cond.methodLink own index arraycopyName).before args s = true) (hnat : (Cond.native arraycopyName).before args s = true) (hstat : (Cond.static arraycopyName).before args s = true) (hini : (Cond.initialized "java/lang/System").before args s = true)
    (hK : va_K D cl (kx_ty cI cJ cZ) s) {ws : va_W} {q0 q1 n0 n1 k : Nat} {f g : Nat → Int32} (hP : va_P D cl ws H) (hD : va_D A ws) (hS : va_S A s.heap H locs) (ha0 : ws[q0]? = some (a0, .inl (cI, n0, .inl f))) (ha1 : ws[q1]? = some (a, .inl (cI, n1, .inl g))) (hk : k < 2 ^ 31) (h4 : k ≤ n0) (h5 : k ≤ n1) (hframes : 1 ≤ R.frames) (hlocals : (rest.map fun v => v.category).sum + (nativeFrameWords "java/lang/System" "arraycopy" 5 + 11) ≤ R.locals) (hdg : decode cc pc = .ok (.invokestatic index, 3))
    (kk : ∀ (H1 : Heap) (locs1 : List Loc), va_P D cl (ws.set q1 (a, .inl (cI, n1, .inl (va_cpy f g 0 0 k)))) H1 → va_D A (ws.set q1 (a, .inl (cI, n1, .inl (va_cpy f g 0 0 k)))) → va_S A s.heap H1 locs1 → W p l e R s m args below meth c H1 locs1 cells slots Q (F0 m (pc + 3) ls rest)) : W p l e R s m args below meth c H locs cells slots Q (F0 m pc ls (.int (nI k) :: .int (nI 0) :: .ref a :: .int (nI 0) :: .ref a0 :: rest)) := by
  have c0 : (nI 0).toNatClampNeg = 0 := nI_clamp (by decide)
  have ck : (nI k).toNatClampNeg = k := nI_clamp hk
  refine va_copyi (ty := .int) hx hb hml hown hlink hnat hstat hini hK hP hD hS q0 q1 0 0 ha0 ha1 rfl rfl rfl (nI_pos (by decide)) (nI_pos (by decide)) (nI_pos hk) (by rw [c0, ck]; omega) (by rw [c0, ck]; omega) (fun i _ => rfl) hframes hlocals hdg ?_
  rw [c0, ck]
  exact kk
theorem kx_copyj (hx : p.tables.exec = Jvm.exec) (hb : c.code = cc) (hml : c.maxLocals = ls.size) {own : String} {index : Nat} (hown : s.vm.findClass own = some m.cls) (hlink : (Cond.methodLink own index arraycopyName).before args s = true) (hnat : (Cond.native arraycopyName).before args s = true) (hstat : (Cond.static arraycopyName).before args s = true) (hini : (Cond.initialized "java/lang/System").before args s = true)
    (hK : va_K D cl (kx_ty cI cJ cZ) s) {ws : va_W} {q0 q1 n0 n1 k : Nat} {f g : Nat → Int64} (hP : va_P D cl ws H) (hD : va_D A ws) (hS : va_S A s.heap H locs) (ha0 : ws[q0]? = some (a0, .inl (cJ, n0, .inr (.inl f)))) (ha1 : ws[q1]? = some (a, .inl (cJ, n1, .inr (.inl g)))) (hk : k < 2 ^ 31) (h4 : k ≤ n0) (h5 : k ≤ n1) (hframes : 1 ≤ R.frames) (hlocals : (rest.map fun v => v.category).sum + (nativeFrameWords "java/lang/System" "arraycopy" 5 + 11) ≤ R.locals) (hdg : decode cc pc = .ok (.invokestatic index, 3))
    (kk : ∀ (H1 : Heap) (locs1 : List Loc), va_P D cl (ws.set q1 (a, .inl (cJ, n1, .inr (.inl (va_cpy f g 0 0 k))))) H1 → va_D A (ws.set q1 (a, .inl (cJ, n1, .inr (.inl (va_cpy f g 0 0 k))))) → va_S A s.heap H1 locs1 → W p l e R s m args below meth c H1 locs1 cells slots Q (F0 m (pc + 3) ls rest)) : W p l e R s m args below meth c H locs cells slots Q (F0 m pc ls (.int (nI k) :: .int (nI 0) :: .ref a :: .int (nI 0) :: .ref a0 :: rest)) := by
  have c0 : (nI 0).toNatClampNeg = 0 := nI_clamp (by decide)
  have ck : (nI k).toNatClampNeg = k := nI_clamp hk
  refine va_copyl (ty := .long) hx hb hml hown hlink hnat hstat hini hK hP hD hS q0 q1 1 1 ha0 ha1 rfl rfl rfl (nI_pos (by decide)) (nI_pos (by decide)) (nI_pos hk) (by rw [c0, ck]; omega) (by rw [c0, ck]; omega) (fun i _ => rfl) hframes hlocals hdg ?_
  rw [c0, ck]
  exact kk
theorem kx_cpy {α : Type} {f g : Nat → α} {k j : Nat} (h : j < k) : va_cpy f g 0 0 k j = f j := by
  unfold va_cpy
  rw [if_pos ⟨Nat.zero_le _, by omega⟩, Nat.zero_add, Nat.sub_zero]
end KC
