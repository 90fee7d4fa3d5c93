/-! one form for all contracts: a world in, a world out -/
section KX
def kx_ty (cI cJ cZ : ClassId) : List (ClassId × FieldType) := [(cI, .int), (cJ, .long), (cZ, .boolean)]
def kb_p (P : Prop) [Decidable P] : Int32 := if P then nI 1 else nI 0
theorem kb_0 {P : Prop} [Decidable P] : kb_p P = 0 ↔ ¬ P := by
  unfold kb_p
  by_cases h : P
  · rw [if_pos h]; exact ⟨fun q => absurd q (by decide), fun q => absurd h q⟩
  · rw [if_neg h]; exact ⟨fun _ => h, fun _ => rfl⟩
theorem kb_1 {P : Prop} [Decidable P] : ¬ kb_p P = 0 ↔ P := by
  rw [kb_0]; exact Decidable.not_not
theorem kb_t {P : Prop} [Decidable P] (h : P) : nI 1 = kb_p P := by unfold kb_p; rw [if_pos h]
theorem kb_f {P : Prop} [Decidable P] (h : ¬ P) : nI 0 = kb_p P := by unfold kb_p; rw [if_neg h]
theorem kb_i {P Q : Prop} [Decidable P] [Decidable Q] (h : P ↔ Q) : kb_p P = kb_p Q := by
  by_cases q : P
  · rw [← kb_t q, ← kb_t (h.mp q)]
  · rw [← kb_f q, ← kb_f (fun z => q (h.mpr z))]
theorem kb_nar {P : Prop} [Decidable P] : narrow .boolean (.int (kb_p P)) = .int (kb_p P) := by
  by_cases q : P
  · rw [← kb_t q]; decide
  · rw [← kb_f q]; decide
theorem kn_eq0 {n : Nat} (h : n < 2 ^ 31) : nI n = 0 ↔ n = 0 := by rw [← nI_0]; exact nI_eq h (by decide)
theorem kn_gt0 {n : Nat} (h : n < 2 ^ 31) : 0 < nI n ↔ 0 < n := by rw [← nI_0]; exact nI_ltI (by decide) h
theorem kn_le0 {n : Nat} (h : n < 2 ^ 31) : nI n ≤ 0 ↔ n ≤ 0 := by rw [← nI_0]; exact nI_leI h (by decide)
theorem kn_ge0 {n : Nat} (h : n < 2 ^ 31) : 0 ≤ nI n ↔ 0 ≤ n := by rw [← nI_0]; exact nI_leI (by decide) h
theorem kn_lt0 {n : Nat} (h : n < 2 ^ 31) : nI n < 0 ↔ n < 0 := by rw [← nI_0]; exact nI_ltI h (by decide)
theorem kx_Nm {s U : State} (hW : s.WarmedH U.vm) (h : kx_N s) : kx_N U := ⟨va_Nw.warmM hW h.1, va_Nw.warmM hW h.2.1, va_Nw.warmM hW h.2.2.1, va_Nw.warmM hW h.2.2.2.1, va_Nw.warmM hW h.2.2.2.2.1, va_Nw.warmM hW h.2.2.2.2.2.1, va_Nw.warmM hW h.2.2.2.2.2.2.1, va_Nw.warmM hW h.2.2.2.2.2.2.2⟩
theorem kx_Ns {s U : State} (hW : s.vm = U.vm) (h : kx_N s) : kx_N U := ⟨va_Nw.same rfl hW h.1, va_Nw.same rfl hW h.2.1, va_Nw.same rfl hW h.2.2.1, va_Nw.same rfl hW h.2.2.2.1, va_Nw.same rfl hW h.2.2.2.2.1, va_Nw.same rfl hW h.2.2.2.2.2.1, va_Nw.same rfl hW h.2.2.2.2.2.2.1, va_Nw.same rfl hW h.2.2.2.2.2.2.2⟩
def kx_P (D : va_G) (cl : List vw_C) (tys : List (ClassId × FieldType)) (av : List Value) (ws : va_W) (sz : Nat) : Array Value → State → Prop := va_Pc av (fun U => U.heap.size = sz ∧ va_P D cl ws U.heap ∧ va_K D cl tys U ∧ va_D (fun _ => True) ws ∧ kx_N U)
def kx_B (D : va_G) (cl : List vw_C) (tys : List (ClassId × FieldType)) (A : Nat → Prop) {S : Type} (wf : S → va_W) : S → State → Prop := fun u t => va_P D cl (wf u) t.heap ∧ va_K D cl tys t ∧ va_D A (wf u) ∧ kx_N t
abbrev kx_Mi (l : Launch) (y : MethodName) (ww : List Cond) (rm : Room) (D : va_G) (cl : List vw_C) (tys : List (ClassId × FieldType)) (av : List Value) (ws : va_W) (sz : Nat) {S : Type} (post : Int32 → S → Prop) (wf : S → va_W) (mc ms : Nat) : Prop := Met l y ww rm (kx_P D cl tys av ws sz) (va_Qi post (kx_B D cl tys (va_A ws sz) wf) (va_A ws sz)) mc ms (va_A ws sz)
abbrev kx_Ml (l : Launch) (y : MethodName) (ww : List Cond) (rm : Room) (D : va_G) (cl : List vw_C) (tys : List (ClassId × FieldType)) (av : List Value) (ws : va_W) (sz : Nat) {S : Type} (post : Int64 → S → Prop) (wf : S → va_W) (mc ms : Nat) : Prop := Met l y ww rm (kx_P D cl tys av ws sz) (va_Ql post (kx_B D cl tys (va_A ws sz) wf) (va_A ws sz)) mc ms (va_A ws sz)
abbrev kx_Mv (l : Launch) (y : MethodName) (ww : List Cond) (rm : Room) (D : va_G) (cl : List vw_C) (tys : List (ClassId × FieldType)) (av : List Value) (ws : va_W) (sz : Nat) {S : Type} (post : S → Prop) (wf : S → va_W) (mc ms : Nat) : Prop := Met l y ww rm (kx_P D cl tys av ws sz) (va_Qv post (kx_B D cl tys (va_A ws sz) wf) (va_A ws sz)) mc ms (va_A ws sz)
theorem kx_cP {D : va_G} {cl : List vw_C} {w w' : va_W} {H : Heap} (h : w = w') (p : va_P D cl w H) : va_P D cl w' H := h ▸ p
theorem kx_cD {A : Nat → Prop} {w w' : va_W} (h : w = w') (p : va_D A w) : va_D A w' := h ▸ p
theorem kx_blind {D : va_G} {cl : List vw_C} {tys : List (ClassId × FieldType)} {av : List Value} {ws : va_W} {sz : Nat} : FrameBlind (kx_P D cl tys av ws sz) := fun a U g mk q => by
  obtain ⟨q0, q1, qP, qK, qD, qN⟩ := q
  exact ⟨q0, q1, qP, va_K.moved (u := U) (U := U.calling g mk a) (Vm.Alike.refl U.vm) qK, qD, kx_Ns (U := U.calling g mk a) rfl qN⟩
theorem kx_preV {D : va_G} {cl : List vw_C} {tys : List (ClassId × FieldType)} {s : State} {H : Heap} {wc : va_W} {A : Nat → Prop} {b q0 ci : Nat} {C : String} {T : u_T} {N : Nat} {fs As : List Value} (hK : va_K D cl tys s) (hN : kx_N s) (hP : va_P D cl wc H) (hD : va_D A wc) (hc : cl[ci]? = some (C, T, N)) (he : wc[q0]? = some (b, .inr (ci, fs))) : PreV s H C b (kx_P D cl tys (.ref b :: As) wc H.size) As :=
  ⟨kx_blind, va_recv hK hP hc he, fun U hU hW => ⟨rfl, by rw [hU], by rw [hU]; exact hP, va_K.moved hW.alike hK, hD.weaken (fun _ _ _ _ => trivial), kx_Nm hW hN⟩⟩
theorem kx_preS {D : va_G} {cl : List vw_C} {tys : List (ClassId × FieldType)} {s : State} {H : Heap} {wc : va_W} {A : Nat → Prop} {As : List Value} (hK : va_K D cl tys s) (hN : kx_N s) (hP : va_P D cl wc H) (hD : va_D A wc) : PreS s H (kx_P D cl tys As wc H.size) As :=
  ⟨kx_blind, fun U hU hW => ⟨rfl, by rw [hU], by rw [hU]; exact hP, va_K.moved hW.alike hK, hD.weaken (fun _ _ _ _ => trivial), kx_Nm hW hN⟩⟩
/-- a contract's start -/
theorem kx_start {l : Launch} {y : MethodName} {ww ww' : List Cond} {rm : Room} {D : va_G} {cl : List vw_C} {tys : List (ClassId × FieldType)} {av : List Value} {ws : va_W} {sz mc ms maxL : Nat} {cc : ByteArray} {ret : Option FieldType} (Qc : (Nat → Prop) → Array Value → State → Outcome → State → Prop) (hy : plainName y.cls = true) (hw : ww = Cond.code y cc maxL ret :: ww') (hlen : (lg_sl av).length ≤ maxL)
    (body : ∀ (p : Program) (e : Env) (s : State) (m : MethodId) (below : List Frame) (meth : Method) (c : Code) (A : Nat → Prop) (ls : Array Slot), p.tables.exec = Jvm.exec → c.code = cc → meth.sig.returnType = ret → c.maxLocals = maxL → (∀ w ∈ ww, w.before av.toArray s = true) → s.vm.findClass y.cls = some m.cls → meth.locks = false → meth.name = y.name → va_P D cl ws s.heap → va_K D cl tys s → kx_N s → va_D A ws → (∀ q : Nat, s.heap.size ≤ q → A q) → va_S A s.heap s.heap [] → lv_has ls maxL (lv_args 0 av) → W p l e (headSpec ww rm).room s m av.toArray below meth c s.heap [] 0 0 (MQ below (Qc A) av.toArray s mc ms A) (F0 m 0 ls [])) : Met l y ww rm (kx_P D cl tys av ws sz) (Qc (va_A ws sz)) mc ms (va_A ws sz) := by
  refine Met.ofW (cc := cc) (maxL := maxL) (ret := ret) hy hw ?_
  intro p e s m args below meth c s₁ B hml hv
  obtain ⟨rfl, hsz, hP, hK, hD0, hN⟩ := hv
  have hts := atoms_spec (ws := ww) B.pre
  have hown : s.vm.findClass y.cls = some m.cls := findClass_of_methodNamed B.named
  have hin : meth.name = y.name := (name_of_methodNamed B.named B.method).1
  subst hsz
  have hD := hD0.self (sz := s.heap.size)
  have hl := lv_entry av (n := maxL) hlen
  rw [lg_entry_eq]
  exact body p e s m below meth c (va_A ws s.heap.size) _ B.exec B.bytes B.returns hml hts hown B.notSynchronized hin hP hK hN hD (fun q h => Or.inr h) va_S.rf hl
theorem kx_starti {l : Launch} {y : MethodName} {ww ww' : List Cond} {rm : Room} {D : va_G} {cl : List vw_C} {tys : List (ClassId × FieldType)} {av : List Value} {ws : va_W} {sz mc ms maxL : Nat} {cc : ByteArray} {ret : Option FieldType} {S : Type} {post : Int32 → S → Prop} {wf : S → va_W} (hy : plainName y.cls = true) (hw : ww = Cond.code y cc maxL ret :: ww') (hlen : (lg_sl av).length ≤ maxL)
    (body : ∀ (p : Program) (e : Env) (s : State) (m : MethodId) (below : List Frame) (meth : Method) (c : Code) (A : Nat → Prop) (ls : Array Slot), p.tables.exec = Jvm.exec → c.code = cc → meth.sig.returnType = ret → c.maxLocals = maxL → (∀ w ∈ ww, w.before av.toArray s = true) → s.vm.findClass y.cls = some m.cls → meth.locks = false → meth.name = y.name → va_P D cl ws s.heap → va_K D cl tys s → kx_N s → va_D A ws → (∀ q : Nat, s.heap.size ≤ q → A q) → va_S A s.heap s.heap [] → lv_has ls maxL (lv_args 0 av) → W p l e (headSpec ww rm).room s m av.toArray below meth c s.heap [] 0 0 (MQ below (va_Qi post (kx_B D cl tys A wf) A) av.toArray s mc ms A) (F0 m 0 ls [])) : kx_Mi l y ww rm D cl tys av ws sz post wf mc ms :=
  kx_start (fun A => va_Qi post (kx_B D cl tys A wf) A) hy hw hlen body
theorem kx_startl {l : Launch} {y : MethodName} {ww ww' : List Cond} {rm : Room} {D : va_G} {cl : List vw_C} {tys : List (ClassId × FieldType)} {av : List Value} {ws : va_W} {sz mc ms maxL : Nat} {cc : ByteArray} {ret : Option FieldType} {S : Type} {post : Int64 → S → Prop} {wf : S → va_W} (hy : plainName y.cls = true) (hw : ww = Cond.code y cc maxL ret :: ww') (hlen : (lg_sl av).length ≤ maxL)
    (body : ∀ (p : Program) (e : Env) (s : State) (m : MethodId) (below : List Frame) (meth : Method) (c : Code) (A : Nat → Prop) (ls : Array Slot), p.tables.exec = Jvm.exec → c.code = cc → meth.sig.returnType = ret → c.maxLocals = maxL → (∀ w ∈ ww, w.before av.toArray s = true) → s.vm.findClass y.cls = some m.cls → meth.locks = false → meth.name = y.name → va_P D cl ws s.heap → va_K D cl tys s → kx_N s → va_D A ws → (∀ q : Nat, s.heap.size ≤ q → A q) → va_S A s.heap s.heap [] → lv_has ls maxL (lv_args 0 av) → W p l e (headSpec ww rm).room s m av.toArray below meth c s.heap [] 0 0 (MQ below (va_Ql post (kx_B D cl tys A wf) A) av.toArray s mc ms A) (F0 m 0 ls [])) : kx_Ml l y ww rm D cl tys av ws sz post wf mc ms :=
  kx_start (fun A => va_Ql post (kx_B D cl tys A wf) A) hy hw hlen body
theorem kx_startv {l : Launch} {y : MethodName} {ww ww' : List Cond} {rm : Room} {D : va_G} {cl : List vw_C} {tys : List (ClassId × FieldType)} {av : List Value} {ws : va_W} {sz mc ms maxL : Nat} {cc : ByteArray} {ret : Option FieldType} {S : Type} {post : S → Prop} {wf : S → va_W} (hy : plainName y.cls = true) (hw : ww = Cond.code y cc maxL ret :: ww') (hlen : (lg_sl av).length ≤ maxL)
    (body : ∀ (p : Program) (e : Env) (s : State) (m : MethodId) (below : List Frame) (meth : Method) (c : Code) (A : Nat → Prop) (ls : Array Slot), p.tables.exec = Jvm.exec → c.code = cc → meth.sig.returnType = ret → c.maxLocals = maxL → (∀ w ∈ ww, w.before av.toArray s = true) → s.vm.findClass y.cls = some m.cls → meth.locks = false → meth.name = y.name → va_P D cl ws s.heap → va_K D cl tys s → kx_N s → va_D A ws → (∀ q : Nat, s.heap.size ≤ q → A q) → va_S A s.heap s.heap [] → lv_has ls maxL (lv_args 0 av) → W p l e (headSpec ww rm).room s m av.toArray below meth c s.heap [] 0 0 (MQ below (va_Qv post (kx_B D cl tys A wf) A) av.toArray s mc ms A) (F0 m 0 ls [])) : kx_Mv l y ww rm D cl tys av ws sz post wf mc ms :=
  kx_start (fun A => va_Qv post (kx_B D cl tys A wf) A) hy hw hlen body
variable {p : Program} {l : Launch} {e : Env} {R : Room} {s : State} {m : MethodId} {args : Array Value} {below : List Frame} {meth : Method} {c : Code} {H : Heap} {locs : List Loc} {cells slots : Nat} {Q : State → Prop}
variable {cc : ByteArray} {pc : Nat} {ls : Array Slot} {rest st0 : List Value} {D : va_G} {cl : List vw_C} {tys : List (ClassId × FieldType)} {A : Nat → Prop} {mc ms : Nat} {a : Array Value}
theorem kx_calli {S : Type} {post : Int32 → S → Prop} {wf : S → va_W} {ws wc wr : va_W} (hr : va_Run p l e R s m args below meth c H locs cells slots mc ms (F0 m pc ls st0) rest (va_Qi post (kx_B D cl tys (va_A wc H.size) wf) (va_A wc H.size) a) (va_A wc H.size)) (hP : va_P D cl ws H) (hD : va_D A ws) (hS : va_S A s.heap H locs) (hA : ∀ q, s.heap.size ≤ q → A q) (isC isR : List Nat) (hC : isC.map (fun i => ws[i]?) = wc.map some) (hR : isR.map (fun i => ws[i]?) = wr.map some) (hn : va_nd isR = true) (hdis : ∀ i ∈ isR, i ∉ isC)
    (kk : ∀ (r : Int32) (u : S) (H1 : Heap) (locs1 : List Loc), post r u → va_P D cl (wr ++ wf u) H1 → va_D A (wr ++ wf u) → va_S A s.heap H1 locs1 → W p l e R s m args below meth c H1 locs1 (cells + mc) (slots + ms) Q (F0 m (pc + 3) ls (.int r :: rest))) : W p l e R s m args below meth c H locs cells slots Q (F0 m pc ls st0) := by
  have hFc := va_free (wc := wc) hD hS hA isC hC
  refine va_calli hr hS (fun q _ h => hFc q h) hFc (fun r u t H1 locs1 ht hvm hw hB hz1 hk1 hS1 => ?_)
  obtain ⟨hP1, hK1, hD1, _⟩ := hB
  rw [ht] at hP1
  obtain ⟨hP', hD'⟩ := va_join (wr := wr) (w1 := wf u) hP hD isC isR hC hR hn hdis hk1 hFc hP1 hD1
  exact kk r u H1 locs1 hw hP' hD' hS1
theorem kx_calll {S : Type} {post : Int64 → S → Prop} {wf : S → va_W} {ws wc wr : va_W} (hr : va_Run p l e R s m args below meth c H locs cells slots mc ms (F0 m pc ls st0) rest (va_Ql post (kx_B D cl tys (va_A wc H.size) wf) (va_A wc H.size) a) (va_A wc H.size)) (hP : va_P D cl ws H) (hD : va_D A ws) (hS : va_S A s.heap H locs) (hA : ∀ q, s.heap.size ≤ q → A q) (isC isR : List Nat) (hC : isC.map (fun i => ws[i]?) = wc.map some) (hR : isR.map (fun i => ws[i]?) = wr.map some) (hn : va_nd isR = true) (hdis : ∀ i ∈ isR, i ∉ isC)
    (kk : ∀ (r : Int64) (u : S) (H1 : Heap) (locs1 : List Loc), post r u → va_P D cl (wr ++ wf u) H1 → va_D A (wr ++ wf u) → va_S A s.heap H1 locs1 → W p l e R s m args below meth c H1 locs1 (cells + mc) (slots + ms) Q (F0 m (pc + 3) ls (.long r :: rest))) : W p l e R s m args below meth c H locs cells slots Q (F0 m pc ls st0) := by
  have hFc := va_free (wc := wc) hD hS hA isC hC
  refine va_calll hr hS (fun q _ h => hFc q h) hFc (fun r u t H1 locs1 ht hvm hw hB hz1 hk1 hS1 => ?_)
  obtain ⟨hP1, hK1, hD1, _⟩ := hB
  rw [ht] at hP1
  obtain ⟨hP', hD'⟩ := va_join (wr := wr) (w1 := wf u) hP hD isC isR hC hR hn hdis hk1 hFc hP1 hD1
  exact kk r u H1 locs1 hw hP' hD' hS1
theorem kx_callv {S : Type} {post : S → Prop} {wf : S → va_W} {ws wc wr : va_W} (hr : va_Run p l e R s m args below meth c H locs cells slots mc ms (F0 m pc ls st0) rest (va_Qv post (kx_B D cl tys (va_A wc H.size) wf) (va_A wc H.size) a) (va_A wc H.size)) (hP : va_P D cl ws H) (hD : va_D A ws) (hS : va_S A s.heap H locs) (hA : ∀ q, s.heap.size ≤ q → A q) (isC isR : List Nat) (hC : isC.map (fun i => ws[i]?) = wc.map some) (hR : isR.map (fun i => ws[i]?) = wr.map some) (hn : va_nd isR = true) (hdis : ∀ i ∈ isR, i ∉ isC)
    (kk : ∀ (u : S) (H1 : Heap) (locs1 : List Loc), post u → va_P D cl (wr ++ wf u) H1 → va_D A (wr ++ wf u) → va_S A s.heap H1 locs1 → W p l e R s m args below meth c H1 locs1 (cells + mc) (slots + ms) Q (F0 m (pc + 3) ls rest)) : W p l e R s m args below meth c H locs cells slots Q (F0 m pc ls st0) := by
  have hFc := va_free (wc := wc) hD hS hA isC hC
  refine va_callv hr hS (fun q _ h => hFc q h) hFc (fun u t H1 locs1 ht hvm hw hB hz1 hk1 hS1 => ?_)
  obtain ⟨hP1, hK1, hD1, _⟩ := hB
  rw [ht] at hP1
  obtain ⟨hP', hD'⟩ := va_join (wr := wr) (w1 := wf u) hP hD isC isR hC hR hn hdis hk1 hFc hP1 hD1
  exact kk u H1 locs1 hw hP' hD' hS1
/-- returns -/
theorem kx_iret {S : Type} {post : Int32 → S → Prop} {wf : S → va_W} {v : Int32} (hx : p.tables.exec = Jvm.exec) (hb : c.code = cc) (hr : meth.sig.returnType = some .int) (hlocks : meth.locks = false) (hK : va_K D cl tys s) (hN : kx_N s) (hS : va_S A s.heap H locs) (hdg : decode cc pc = .ok (.ireturn, 1)) (u : S) (hP : va_P D cl (wf u) H) (hD : va_D A (wf u)) (hq : post v u) : W p l e R s m args below meth c H locs cells slots (MQ below (va_Qi post (kx_B D cl tys A wf) A) args s cells slots A) (F0 m pc ls [.int v]) :=
  W.iret hx hb hr (fun t ht hW => ⟨⟨v, u, rfl, hq, by rw [ht]; exact hP, va_K.moved hW.alike hK, hD, kx_Nm hW hN⟩, hS.F ht⟩) hS.2.2 hdg hlocks
theorem kx_zret {S : Type} {post : Int32 → S → Prop} {wf : S → va_W} {v : Int32} (hx : p.tables.exec = Jvm.exec) (hb : c.code = cc) (hr : meth.sig.returnType = some .boolean) (hlocks : meth.locks = false) (hK : va_K D cl tys s) (hN : kx_N s) (hS : va_S A s.heap H locs) (hdg : decode cc pc = .ok (.ireturn, 1)) (hv : narrow .boolean (.int v) = .int v) (u : S) (hP : va_P D cl (wf u) H) (hD : va_D A (wf u)) (hq : post v u) : W p l e R s m args below meth c H locs cells slots (MQ below (va_Qi post (kx_B D cl tys A wf) A) args s cells slots A) (F0 m pc ls [.int v]) :=
  W.zret hx hb hr hv (fun t ht hW => ⟨⟨v, u, rfl, hq, by rw [ht]; exact hP, va_K.moved hW.alike hK, hD, kx_Nm hW hN⟩, hS.F ht⟩) hS.2.2 hdg hlocks
theorem kx_lret {S : Type} {post : Int64 → S → Prop} {wf : S → va_W} {v : Int64} (hx : p.tables.exec = Jvm.exec) (hb : c.code = cc) (hr : meth.sig.returnType = some .long) (hlocks : meth.locks = false) (hK : va_K D cl tys s) (hN : kx_N s) (hS : va_S A s.heap H locs) (hdg : decode cc pc = .ok (.lreturn, 1)) (u : S) (hP : va_P D cl (wf u) H) (hD : va_D A (wf u)) (hq : post v u) : W p l e R s m args below meth c H locs cells slots (MQ below (va_Ql post (kx_B D cl tys A wf) A) args s cells slots A) (F0 m pc ls [.long v]) :=
  W.lret hx hb hr (fun t ht hW => ⟨⟨v, u, rfl, hq, by rw [ht]; exact hP, va_K.moved hW.alike hK, hD, kx_Nm hW hN⟩, hS.F ht⟩) hS.2.2 hdg hlocks
theorem kx_vret {S : Type} {post : S → Prop} {wf : S → va_W} (hx : p.tables.exec = Jvm.exec) (hb : c.code = cc) (hr : meth.sig.returnType = none) (hlocks : meth.locks = false) (hK : va_K D cl tys s) (hN : kx_N s) (hS : va_S A s.heap H locs) (hdg : decode cc pc = .ok (.return_, 1)) (u : S) (hP : va_P D cl (wf u) H) (hD : va_D A (wf u)) (hq : post u) : W p l e R s m args below meth c H locs cells slots (MQ below (va_Qv post (kx_B D cl tys A wf) A) args s cells slots A) (F0 m pc ls []) :=
  W.vret hx hb hr (fun t ht hW => ⟨⟨u, rfl, hq, by rw [ht]; exact hP, va_K.moved hW.alike hK, hD, kx_Nm hW hN⟩, hS.F ht⟩) hS.2.2 hdg hlocks
/-- arrays by natural places -/
theorem kx_iald (hx : p.tables.exec = Jvm.exec) (hb : c.code = cc) {ws : va_W} {q0 t0 : Nat} {cA : ClassId} {n b i : Nat} {f : Nat → Int32} (hdg : decode cc pc = .ok (.iaload, 1)) (hK : va_K D cl tys s) (hP : va_P D cl ws H) (ha : ws[q0]? = some (b, .inl (cA, n, .inl f))) (ht : tys[t0]? = some (cA, .int)) (hi : i < n) (hn : n < 2 ^ 31)
    (kk : W p l e R s m args below meth c H locs cells slots Q (F0 m (pc + 1) ls (.int (f i) :: rest))) : W p l e R s m args below meth c H locs cells slots Q (F0 m pc ls (.int (nI i) :: .ref b :: rest)) :=
  va_iald hx hb hK hP q0 t0 ha ht (vp_in_nI hi hn) hdg (by rw [nI_clamp (Nat.lt_trans hi hn)]; exact kk)
theorem kx_lald (hx : p.tables.exec = Jvm.exec) (hb : c.code = cc) {ws : va_W} {q0 t0 : Nat} {cA : ClassId} {n b i : Nat} {f : Nat → Int64} (hdg : decode cc pc = .ok (.laload, 1)) (hK : va_K D cl tys s) (hP : va_P D cl ws H) (ha : ws[q0]? = some (b, .inl (cA, n, .inr (.inl f)))) (ht : tys[t0]? = some (cA, .long)) (hi : i < n) (hn : n < 2 ^ 31)
    (kk : W p l e R s m args below meth c H locs cells slots Q (F0 m (pc + 1) ls (.long (f i) :: rest))) : W p l e R s m args below meth c H locs cells slots Q (F0 m pc ls (.int (nI i) :: .ref b :: rest)) :=
  va_lald hx hb hK hP q0 t0 ha ht (vp_in_nI hi hn) hdg (by rw [nI_clamp (Nat.lt_trans hi hn)]; exact kk)
theorem kx_zald (hx : p.tables.exec = Jvm.exec) (hb : c.code = cc) {ws : va_W} {q0 t0 : Nat} {cA : ClassId} {n b i : Nat} {f : Nat → Int32} (hdg : decode cc pc = .ok (.baload, 1)) (hK : va_K D cl tys s) (hP : va_P D cl ws H) (ha : ws[q0]? = some (b, .inl (cA, n, .inl f))) (ht : tys[t0]? = some (cA, .boolean)) (hi : i < n) (hn : n < 2 ^ 31)
    (kk : W p l e R s m args below meth c H locs cells slots Q (F0 m (pc + 1) ls (.int (f i) :: rest))) : W p l e R s m args below meth c H locs cells slots Q (F0 m pc ls (.int (nI i) :: .ref b :: rest)) :=
  va_zald hx hb hK hP q0 t0 ha ht (vp_in_nI hi hn) hdg (by rw [nI_clamp (Nat.lt_trans hi hn)]; exact kk)
theorem kx_iast (hx : p.tables.exec = Jvm.exec) (hb : c.code = cc) {ws : va_W} {q0 t0 : Nat} {cA : ClassId} {n b i : Nat} {f : Nat → Int32} {x : Int32} (hdg : decode cc pc = .ok (.iastore, 1)) (hK : va_K D cl tys s) (hP : va_P D cl ws H) (hD : va_D A ws) (hS : va_S A s.heap H locs) (ha : ws[q0]? = some (b, .inl (cA, n, .inl f))) (ht : tys[t0]? = some (cA, .int)) (hi : i < n) (hn : n < 2 ^ 31)
    (kk : ∀ (H1 : Heap) (locs1 : List Loc), va_P D cl (ws.set q0 (b, .inl (cA, n, .inl (upd f i x)))) H1 → va_D A (ws.set q0 (b, .inl (cA, n, .inl (upd f i x)))) → va_S A s.heap H1 locs1 → W p l e R s m args below meth c H1 locs1 cells slots Q (F0 m (pc + 1) ls rest)) : W p l e R s m args below meth c H locs cells slots Q (F0 m pc ls (.int x :: .int (nI i) :: .ref b :: rest)) :=
  va_iast hx hb hK hP hD hS q0 t0 ha ht (vp_in_nI hi hn) hdg (by rw [nI_clamp (Nat.lt_trans hi hn)]; exact kk)
theorem kx_last (hx : p.tables.exec = Jvm.exec) (hb : c.code = cc) {ws : va_W} {q0 t0 : Nat} {cA : ClassId} {n b i : Nat} {f : Nat → Int64} {x : Int64} (hdg : decode cc pc = .ok (.lastore, 1)) (hK : va_K D cl tys s) (hP : va_P D cl ws H) (hD : va_D A ws) (hS : va_S A s.heap H locs) (ha : ws[q0]? = some (b, .inl (cA, n, .inr (.inl f)))) (ht : tys[t0]? = some (cA, .long)) (hi : i < n) (hn : n < 2 ^ 31)
    (kk : ∀ (H1 : Heap) (locs1 : List Loc), va_P D cl (ws.set q0 (b, .inl (cA, n, .inr (.inl (vp_updL f i x))))) H1 → va_D A (ws.set q0 (b, .inl (cA, n, .inr (.inl (vp_updL f i x))))) → va_S A s.heap H1 locs1 → W p l e R s m args below meth c H1 locs1 cells slots Q (F0 m (pc + 1) ls rest)) : W p l e R s m args below meth c H locs cells slots Q (F0 m pc ls (.long x :: .int (nI i) :: .ref b :: rest)) :=
  va_last hx hb hK hP hD hS q0 t0 ha ht (vp_in_nI hi hn) hdg (by rw [nI_clamp (Nat.lt_trans hi hn)]; exact kk)
theorem kx_zast (hx : p.tables.exec = Jvm.exec) (hb : c.code = cc) {ws : va_W} {q0 t0 : Nat} {cA : ClassId} {n b i : Nat} {f : Nat → Int32} {x : Int32} (hdg : decode cc pc = .ok (.bastore, 1)) (hK : va_K D cl tys s) (hP : va_P D cl ws H) (hD : va_D A ws) (hS : va_S A s.heap H locs) (ha : ws[q0]? = some (b, .inl (cA, n, .inl f))) (ht : tys[t0]? = some (cA, .boolean)) (hi : i < n) (hn : n < 2 ^ 31) (hv : vp_nar .boolean x = x)
    (kk : ∀ (H1 : Heap) (locs1 : List Loc), va_P D cl (ws.set q0 (b, .inl (cA, n, .inl (upd f i x)))) H1 → va_D A (ws.set q0 (b, .inl (cA, n, .inl (upd f i x)))) → va_S A s.heap H1 locs1 → W p l e R s m args below meth c H1 locs1 cells slots Q (F0 m (pc + 1) ls rest)) : W p l e R s m args below meth c H locs cells slots Q (F0 m pc ls (.int x :: .int (nI i) :: .ref b :: rest)) :=
  va_zast hx hb hK hP hD hS q0 t0 ha ht (vp_in_nI hi hn) hdg (by rw [nI_clamp (Nat.lt_trans hi hn), hv]; exact kk)
/-- numbers by natural numbers -/
theorem kx_iadd (hx : p.tables.exec = Jvm.exec) (hb : c.code = cc) {x y : Nat} (hdg : decode cc pc = .ok (.iadd, 1)) (k : W p l e R s m args below meth c H locs cells slots Q (F0 m (pc + 1) ls (.int (nI (x + y)) :: rest))) : W p l e R s m args below meth c H locs cells slots Q (F0 m pc ls (.int (nI y) :: .int (nI x) :: rest)) :=
  lv_iadd hx hb hdg (by rw [nI_add]; exact k)
theorem kx_imul (hx : p.tables.exec = Jvm.exec) (hb : c.code = cc) {x y : Nat} (hdg : decode cc pc = .ok (.imul, 1)) (k : W p l e R s m args below meth c H locs cells slots Q (F0 m (pc + 1) ls (.int (nI (x * y)) :: rest))) : W p l e R s m args below meth c H locs cells slots Q (F0 m pc ls (.int (nI y) :: .int (nI x) :: rest)) :=
  lv_imul hx hb hdg (by rw [pk_mul]; exact k)
theorem kx_isub (hx : p.tables.exec = Jvm.exec) (hb : c.code = cc) {x y : Nat} (hdg : decode cc pc = .ok (.isub, 1)) (h : y ≤ x) (k : W p l e R s m args below meth c H locs cells slots Q (F0 m (pc + 1) ls (.int (nI (x - y)) :: rest))) : W p l e R s m args below meth c H locs cells slots Q (F0 m pc ls (.int (nI y) :: .int (nI x) :: rest)) :=
  lv_isub hx hb hdg (by rw [pk_sub h]; exact k)
/-- a place where roads meet, with a number on the stack; the world is the same on all of them -/
theorem kx_joini {ws : va_W} {Y : Nat} {ls1 : Array Slot} {st1 : List Value} {H0 : Heap} {locs0 : List Loc} (E : Int32) (k : ∀ (v : Int32) (H : Heap) (locs : List Loc), v = E → va_P D cl ws H → va_D A ws → va_S A s.heap H locs → W p l e R s m args below meth c H locs cells slots Q (F0 m Y ls1 (.int v :: st1)))
    (b : (∀ (v : Int32) (H : Heap) (locs : List Loc), v = E → va_P D cl ws H → va_D A ws → va_S A s.heap H locs → W p l e R s m args below meth c H locs cells slots Q (F0 m Y ls1 (.int v :: st1))) → W p l e R s m args below meth c H0 locs0 cells slots Q (F0 m pc ls st0)) : W p l e R s m args below meth c H0 locs0 cells slots Q (F0 m pc ls st0) := b k
theorem kx_joinl {ws : va_W} {Y : Nat} {ls1 : Array Slot} {st1 : List Value} {H0 : Heap} {locs0 : List Loc} (E : Int64) (k : ∀ (v : Int64) (H : Heap) (locs : List Loc), v = E → va_P D cl ws H → va_D A ws → va_S A s.heap H locs → W p l e R s m args below meth c H locs cells slots Q (F0 m Y ls1 (.long v :: st1)))
    (b : (∀ (v : Int64) (H : Heap) (locs : List Loc), v = E → va_P D cl ws H → va_D A ws → va_S A s.heap H locs → W p l e R s m args below meth c H locs cells slots Q (F0 m Y ls1 (.long v :: st1))) → W p l e R s m args below meth c H0 locs0 cells slots Q (F0 m pc ls st0)) : W p l e R s m args below meth c H0 locs0 cells slots Q (F0 m pc ls st0) := b k
theorem kx_joinv {ws : va_W} {Y : Nat} {ls1 : Array Slot} {st1 : List Value} {H0 : Heap} {locs0 : List Loc} (k : ∀ (H : Heap) (locs : List Loc), va_P D cl ws H → va_D A ws → va_S A s.heap H locs → W p l e R s m args below meth c H locs cells slots Q (F0 m Y ls1 st1))
    (b : (∀ (H : Heap) (locs : List Loc), va_P D cl ws H → va_D A ws → va_S A s.heap H locs → W p l e R s m args below meth c H locs cells slots Q (F0 m Y ls1 st1)) → W p l e R s m args below meth c H0 locs0 cells slots Q (F0 m pc ls st0)) : W p l e R s m args below meth c H0 locs0 cells slots Q (F0 m pc ls st0) := b k
theorem kx_nameQ {Q0 : State → Prop} {g : JFrame} (k : ∀ Q : State → Prop, Q = Q0 → W p l e R s m args below meth c H locs cells slots Q g) : W p l e R s m args below meth c H locs cells slots Q0 g := k Q0 rfl
theorem kx_toN {x : Int32} {n : Nat} (h : x = nI n) (k : W p l e R s m args below meth c H locs cells slots Q (F0 m pc ls (.int (nI n) :: rest))) : W p l e R s m args below meth c H locs cells slots Q (F0 m pc ls (.int x :: rest)) := by
  rw [h]; exact k
theorem kx_gen {H0 : Heap} {g : JFrame} (hH : H = H0) (hlo : locs = []) (k : W p l e R s m args below meth c H locs cells slots Q g) : W p l e R s m args below meth c H0 [] cells slots Q g := by
  subst hH; subst hlo; exact k
/-- a loop: a measure falls -/
theorem kx_loop {α : Type} (I : α → Heap → List Loc → Array Slot → Prop) (μ : α → Nat) {Y : Nat} {st1 : List Value} (body : ∀ (x : α), (∀ (x' : α) (H' : Heap) (locs' : List Loc) (ls' : Array Slot), I x' H' locs' ls' → μ x' < μ x → W p l e R s m args below meth c H' locs' cells slots Q (F0 m Y ls' st1)) → ∀ (H : Heap) (locs : List Loc) (ls : Array Slot), I x H locs ls → W p l e R s m args below meth c H locs cells slots Q (F0 m Y ls st1)) (x0 : α) (h0 : I x0 H locs ls) : W p l e R s m args below meth c H locs cells slots Q (F0 m Y ls st1) := by
  have key : ∀ (n : Nat) (x : α), μ x < n → ∀ (H : Heap) (locs : List Loc) (ls : Array Slot), I x H locs ls → W p l e R s m args below meth c H locs cells slots Q (F0 m Y ls st1) := by
    intro n
    induction n with
    | zero => intro x h; exact absurd h (Nat.not_lt_zero _)
    | succ n ih =>
      intro x hx H locs ls hI
      exact body x (fun x' H' locs' ls' hI' hlt => ih x' (by omega) H' locs' ls' hI') H locs ls hI
  exact key (μ x0 + 1) x0 (Nat.lt_succ_self _) H locs ls h0
end KX
