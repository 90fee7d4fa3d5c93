/-! new rows and objects, budgets, answers that are references -/
section KY
variable {p : Program} {l : Launch} {e : Env} {R : Room} {s : State} {m : MethodId} {args : Array Value} {below : List Frame} {meth : Method} {c : Code} {H : Heap} {locs : List Loc} {cells slots : Nat} {Q : State → Prop}
variable {cc : ByteArray} {pc : Nat} {ls : Array Slot} {rest st0 : List Value} {D : va_G} {cl : List vw_C} {tys : List (ClassId × FieldType)} {A : Nat → Prop} {mc ms : Nat} {a : Array Value}
theorem kx_widen {k n : Nat} {g : JFrame} (h1 : cells ≤ k) (h2 : slots ≤ n) (kk : W p l e R s m args below meth c H locs k n Q g) : W p l e R s m args below meth c H locs cells slots Q g := fun T hT X => kk T hT (stand_widen X h1 h2)
theorem kx_bud {k n : Nat} {g : JFrame} (kk : W p l e R s m args below meth c H locs cells slots Q g) (h1 : k = cells) (h2 : n = slots) : W p l e R s m args below meth c H locs k n Q g := by
  rw [h1, h2]; exact kk
theorem kx_cls {cI cJ cZ cA : ClassId} {ty : FieldType} {k : Nat} {c0 : ClassId} (hK : va_K D cl (kx_ty cI cJ cZ) s) (hK1 : va_K D cl (kx_ty cI cJ cZ ++ [(cA, ty)]) s) (hk : (kx_ty cI cJ cZ)[k]? = some (c0, ty)) (hp : ∀ U x, va_RA U x ty ↔ U.vm.findClass ("[" ++ ty.toString) = some x) : cA = c0 := by
  have h1 := (hp _ _).mp (hK.2 k _ hk).2
  have h2 := (hp _ _).mp (hK1.2 3 (cA, ty) rfl).2
  exact Option.some.inj (h2.symm.trans h1)
theorem kx_newi {cI cJ cZ : ClassId} {ws : va_W} {N : Nat} (hx : p.tables.exec = Jvm.exec) (hb : c.code = cc) (harr : (Cond.arrayClass .int).before args s = true) (hK : va_K D cl (kx_ty cI cJ cZ) s) (hP : va_P D cl ws H) (hD : va_D A ws) (hS : va_S A s.heap H locs) (hA : ∀ q, s.heap.size ≤ q → A q) (hN : N < 2 ^ 26) (hcells : cells + 1 ≤ R.cells) (hslots : slots + N ≤ R.slots) (hdg : decode cc pc = .ok (.newarray .int, 2))
    (kk : ∀ (q : Nat) (H1 : Heap), va_P D cl (ws ++ [(q, .inl (cI, N, .inl (fun _ => 0)))]) H1 → va_D A (ws ++ [(q, .inl (cI, N, .inl (fun _ => 0)))]) → va_S A s.heap H1 locs → W p l e R s m args below meth c H1 locs (cells + 1) (slots + N) Q (F0 m (pc + 2) ls (.ref q :: rest))) : W p l e R s m args below meth c H locs cells slots Q (F0 m pc ls (.int (nI N) :: rest)) := by
  refine va_newa (atype := .int) (ty := .int) (a0 := (N, .inl (fun _ => 0))) hx hb harr rfl hK hP hD hS hA (fun cA => rfl) (nI_pos (by omega)) (nI_clamp (by omega)) (by show N * 4 ≤ _; omega) hcells hslots hdg (fun q cA H1 hK1 hP1 hD1 hS1 => ?_)
  obtain rfl := kx_cls (k := 0) hK hK1 rfl (fun _ _ => Iff.rfl)
  exact kk q H1 hP1 hD1 hS1
theorem kx_newj {cI cJ cZ : ClassId} {ws : va_W} {N : Nat} (hx : p.tables.exec = Jvm.exec) (hb : c.code = cc) (harr : (Cond.arrayClass .long).before args s = true) (hK : va_K D cl (kx_ty cI cJ cZ) s) (hP : va_P D cl ws H) (hD : va_D A ws) (hS : va_S A s.heap H locs) (hA : ∀ q, s.heap.size ≤ q → A q) (hN : N < 2 ^ 26) (hcells : cells + 1 ≤ R.cells) (hslots : slots + N ≤ R.slots) (hdg : decode cc pc = .ok (.newarray .long, 2))
    (kk : ∀ (q : Nat) (H1 : Heap), va_P D cl (ws ++ [(q, .inl (cJ, N, .inr (.inl (fun _ => 0))))]) H1 → va_D A (ws ++ [(q, .inl (cJ, N, .inr (.inl (fun _ => 0))))]) → va_S A s.heap H1 locs → W p l e R s m args below meth c H1 locs (cells + 1) (slots + N) Q (F0 m (pc + 2) ls (.ref q :: rest))) : W p l e R s m args below meth c H locs cells slots Q (F0 m pc ls (.int (nI N) :: rest)) := by
  refine va_newa (atype := .long) (ty := .long) (a0 := (N, .inr (.inl (fun _ => 0)))) hx hb harr rfl hK hP hD hS hA (fun cA => rfl) (nI_pos (by omega)) (nI_clamp (by omega)) (by show N * 8 ≤ _; omega) hcells hslots hdg (fun q cA H1 hK1 hP1 hD1 hS1 => ?_)
  obtain rfl := kx_cls (k := 1) hK hK1 rfl (fun _ _ => Iff.rfl)
  exact kk q H1 hP1 hD1 hS1
theorem kx_newz {cI cJ cZ : ClassId} {ws : va_W} {N : Nat} (hx : p.tables.exec = Jvm.exec) (hb : c.code = cc) (harr : (Cond.arrayClass .boolean).before args s = true) (hK : va_K D cl (kx_ty cI cJ cZ) s) (hP : va_P D cl ws H) (hD : va_D A ws) (hS : va_S A s.heap H locs) (hA : ∀ q, s.heap.size ≤ q → A q) (hN : N < 2 ^ 26) (hcells : cells + 1 ≤ R.cells) (hslots : slots + N ≤ R.slots) (hdg : decode cc pc = .ok (.newarray .boolean, 2))
    (kk : ∀ (q : Nat) (H1 : Heap), va_P D cl (ws ++ [(q, .inl (cZ, N, .inl (fun _ => 0)))]) H1 → va_D A (ws ++ [(q, .inl (cZ, N, .inl (fun _ => 0)))]) → va_S A s.heap H1 locs → W p l e R s m args below meth c H1 locs (cells + 1) (slots + N) Q (F0 m (pc + 2) ls (.ref q :: rest))) : W p l e R s m args below meth c H locs cells slots Q (F0 m pc ls (.int (nI N) :: rest)) := by
  refine va_newa (atype := .boolean) (ty := .boolean) (a0 := (N, .inl (fun _ => 0))) hx hb harr rfl hK hP hD hS hA (fun cA => rfl) (nI_pos (by omega)) (nI_clamp (by omega)) (by show N * 1 ≤ _; omega) hcells hslots hdg (fun q cA H1 hK1 hP1 hD1 hS1 => ?_)
  obtain rfl := kx_cls (k := 2) hK hK1 rfl (fun _ _ => Iff.rfl)
  exact kk q H1 hP1 hD1 hS1
def kx_Br (D : va_G) (cl : List vw_C) (tys : List (ClassId × FieldType)) (A : Nat → Prop) {S : Type} (wf : S → Nat → va_W) : S → Nat → State → Prop := fun u b t => va_P D cl (wf u b) t.heap ∧ va_K D cl tys t ∧ va_D A (wf u b) ∧ kx_N t
abbrev kx_Mr (l : Launch) (y : MethodName) (ww : List Cond) (rm : Room) (D : va_G) (cl : List vw_C) (tys : List (ClassId × FieldType)) (av : List Value) (ws : va_W) (sz : Nat) {S : Type} (post : S → Prop) (wf : S → Nat → va_W) (mc ms : Nat) : Prop := Met l y ww rm (kx_P D cl tys av ws sz) (va_Qr post (kx_Br D cl tys (va_A ws sz) wf) (va_A ws sz)) mc ms (va_A ws sz)
theorem kx_startr {l : Launch} {y : MethodName} {ww ww' : List Cond} {rm : Room} {D : va_G} {cl : List vw_C} {tys : List (ClassId × FieldType)} {av : List Value} {ws : va_W} {sz mc ms maxL : Nat} {cc : ByteArray} {ret : Option FieldType} {S : Type} {post : S → Prop} {wf : S → Nat → va_W} (hy : plainName y.cls = true) (hw : ww = Cond.code y cc maxL ret :: ww') (hlen : (lg_sl av).length ≤ maxL)
    (body : ∀ (p : Program) (e : Env) (s : State) (m : MethodId) (below : List Frame) (meth : Method) (c : Code) (A : Nat → Prop) (ls : Array Slot), p.tables.exec = Jvm.exec → c.code = cc → meth.sig.returnType = ret → c.maxLocals = maxL → (∀ w ∈ ww, w.before av.toArray s = true) → s.vm.findClass y.cls = some m.cls → meth.locks = false → meth.name = y.name → va_P D cl ws s.heap → va_K D cl tys s → kx_N s → va_D A ws → (∀ q : Nat, s.heap.size ≤ q → A q) → va_S A s.heap s.heap [] → lv_has ls maxL (lv_args 0 av) → W p l e (headSpec ww rm).room s m av.toArray below meth c s.heap [] 0 0 (MQ below (va_Qr post (kx_Br D cl tys A wf) A) av.toArray s mc ms A) (F0 m 0 ls [])) : kx_Mr l y ww rm D cl tys av ws sz post wf mc ms :=
  kx_start (fun A => va_Qr post (kx_Br D cl tys A wf) A) hy hw hlen body
theorem kx_callr {S : Type} {post : S → Prop} {wf : S → Nat → va_W} {ws wc wr : va_W} (hr : va_Run p l e R s m args below meth c H locs cells slots mc ms (F0 m pc ls st0) rest (va_Qr post (kx_Br D cl tys (va_A wc H.size) wf) (va_A wc H.size) a) (va_A wc H.size)) (hP : va_P D cl ws H) (hD : va_D A ws) (hS : va_S A s.heap H locs) (hA : ∀ q, s.heap.size ≤ q → A q) (isC isR : List Nat) (hC : isC.map (fun i => ws[i]?) = wc.map some) (hR : isR.map (fun i => ws[i]?) = wr.map some) (hn : va_nd isR = true) (hdis : ∀ i ∈ isR, i ∉ isC)
    (kk : ∀ (u : S) (b : Nat) (H1 : Heap) (locs1 : List Loc), post u → va_P D cl (wr ++ wf u b) H1 → va_D A (wr ++ wf u b) → va_S A s.heap H1 locs1 → W p l e R s m args below meth c H1 locs1 (cells + mc) (slots + ms) Q (F0 m (pc + 3) ls (.ref b :: rest))) : W p l e R s m args below meth c H locs cells slots Q (F0 m pc ls st0) := by
  have hFc := va_free (wc := wc) hD hS hA isC hC
  refine va_callr hr hS (fun q _ h => hFc q h) hFc (fun u b t H1 locs1 ht hvm hw hB hz1 hk1 hS1 => ?_)
  obtain ⟨hP1, hK1, hD1, _⟩ := hB
  rw [ht] at hP1
  obtain ⟨hP', hD'⟩ := va_join (wr := wr) (w1 := wf u b) hP hD isC isR hC hR hn hdis hk1 hFc hP1 hD1
  exact kk u b H1 locs1 hw hP' hD' hS1
theorem kx_rret {S : Type} {post : S → Prop} {wf : S → Nat → va_W} {rt : FieldType} {b : Nat} (hx : p.tables.exec = Jvm.exec) (hb : c.code = cc) (hr : meth.sig.returnType = some (.array rt)) (hlocks : meth.locks = false) (hK : va_K D cl tys s) (hN : kx_N s) (hS : va_S A s.heap H locs) (hdg : decode cc pc = .ok (.areturn, 1)) (u : S) (hP : va_P D cl (wf u b) H) (hD : va_D A (wf u b)) (hq : post u) : W p l e R s m args below meth c H locs cells slots (MQ below (va_Qr post (kx_Br D cl tys A wf) A) args s cells slots A) (F0 m pc ls [.ref b]) :=
  W.aret hx hb hr (Or.inr ⟨_, rfl⟩) (Or.inr ⟨_, rfl⟩) (fun t ht hW => ⟨⟨u, b, rfl, hq, by rw [ht]; exact hP, va_K.moved hW.alike hK, hD, kx_Nm hW hN⟩, hS.F ht⟩) hS.2.2 hdg hlocks
end KY
/-- how a row grows -/
def kg_n (len need most : Nat) : Nat := if need ≤ len then len else max need (min most (2 * len))
def kg_c (len need k : Nat) : Nat := if need ≤ len then 0 else k
def kg_s (len need most k : Nat) : Nat := if need ≤ len then 0 else k * max need (min most (2 * len))
