section VT2
variable {p : Program} {l : Launch} {e : Env} {R : Room} {s : State} {m : MethodId} {args : Array Value} {below : List Frame} {meth : Method} {c : Code} {H : Heap} {locs : List Loc} {cells slots : Nat} {Q : State → Prop}
def vt_P (D : va_G) (cl : List vw_C) (tys : List (ClassId × FieldType)) (av : List Value) (ws : va_W) (sz : Nat) : Array Value → State → Prop := fun v U => kx_P D cl tys av ws sz v U ∧ vt_S U
theorem vt_blind {D : va_G} {cl : List vw_C} {tys : List (ClassId × FieldType)} {av : List Value} {ws : va_W} {sz : Nat} : FrameBlind (vt_P D cl tys av ws sz) := fun a U g mk q => ⟨kx_blind a U g mk q.1, vt_Sh (s := U) (U := U.calling g mk a) rfl (fun _ _ h _ => h) q.2⟩
theorem vt_cst {cA : ClassId} {a : vp_A} : (vp_cell cA a).vm.isStatics = false := by
  obtain ⟨n, f⟩ := a
  rcases f with f | f | f | f | f <;> rfl
theorem vt_nst {D : va_G} {cl : List vw_C} {ws : va_W} (hP : va_P D cl ws s.heap) : ∀ (q : Nat) (cell : Cell), va_A ws s.heap.size q → s.heap[q]? = some cell → cell.vm.isStatics = false := by
  intro q cell hA hq
  rcases hA with ⟨k, ex, hk⟩ | h
  · have h1 := hP k _ hk
    cases ex with
    | inl a =>
      have h2 : s.heap[q]? = some (vp_cell a.1 a.2) := h1
      rw [hq] at h2
      cases h2
      exact vt_cst
    | inr o =>
      obtain ⟨r, -, cell', g1, -, g3, -⟩ := h1
      have g1 : s.heap[q]? = some cell' := g1
      rw [hq] at g1
      cases g1
      rw [g3]; rfl
  · exact absurd (vt_lt hq) (Nat.not_lt.mpr h)
theorem vt_start {y : MethodName} {ww ww' : List Cond} {rm : Room} {D : va_G} {cl : List vw_C} {tys : List (ClassId × FieldType)} {av : List Value} {ws : va_W} {sz mc ms maxL : Nat} {cc : ByteArray} {ret : Option FieldType} (Qc : (Nat → Prop) → Array Value → State → Outcome → State → Prop) (hy : plainName y.cls = true) (hw : ww = Cond.code y cc maxL ret :: ww') (hlen : (lg_sl av).length ≤ maxL)
    (body : ∀ (p : Program) (e : Env) (s : State) (m : MethodId) (below : List Frame) (meth : Method) (c : Code) (A : Nat → Prop) (ls : Array Slot), p.tables.exec = Jvm.exec → c.code = cc → meth.sig.returnType = ret → c.maxLocals = maxL → (∀ w ∈ ww, w.before av.toArray s = true) → s.vm.findClass y.cls = some m.cls → meth.locks = false → meth.name = y.name → c.exceptionTable.isEmpty = true → vt_S s → (∀ (q : Nat) (cell : Cell), A q → s.heap[q]? = some cell → cell.vm.isStatics = false) → va_P D cl ws s.heap → va_K D cl tys s → kx_N s → va_D A ws → (∀ q : Nat, s.heap.size ≤ q → A q) → va_S A s.heap s.heap [] → lv_has ls maxL (lv_args 0 av) → W p l e (headSpec ww rm).room s m av.toArray below meth c s.heap [] 0 0 (vt_MQ below (Qc A) av.toArray s mc ms A) (F0 m 0 ls [])) : vt_Met l y ww rm (vt_P D cl tys av ws sz) (Qc (va_A ws sz)) mc ms (va_A ws sz) := by
  refine vt_ofW (cc := cc) (maxL := maxL) (ret := ret) hy hw ?_
  intro p e s m args below meth c s₁ B hml hv
  obtain ⟨⟨rfl, hsz, hP, hK, hD0, hN⟩, hTS⟩ := hv
  have hts := atoms_spec (ws := ww) B.pre
  have hown : s.vm.findClass y.cls = some m.cls := findClass_of_methodNamed B.named
  have hin : meth.name = y.name := (name_of_methodNamed B.named B.method).1
  subst hsz
  have hD := hD0.self (sz := s.heap.size)
  have hl := lv_entry av (n := maxL) hlen
  rw [lg_entry_eq]
  exact body p e s m below meth c (va_A ws s.heap.size) _ B.exec B.bytes B.returns hml hts hown B.notSynchronized hin (B.noHandlers (hts _ (by rw [hw]; exact List.mem_cons_self))) hTS (vt_nst hP) hP hK hN hD (fun q h => Or.inr h) va_S.rf hl
theorem vt_preV {D : va_G} {cl : List vw_C} {tys : List (ClassId × FieldType)} {wc : va_W} {A : Nat → Prop} {b q0 ci : Nat} {C : String} {T : u_T} {N : Nat} {fs As : List Value} (hTS : vt_S s) (hh : ∀ (q : Nat) (cell : Cell), s.heap[q]? = some cell → cell.vm.isStatics = true → H[q]? = some cell) (hK : va_K D cl tys s) (hN : kx_N s) (hP : va_P D cl wc H) (hD : va_D A wc) (hc : cl[ci]? = some (C, T, N)) (he : wc[q0]? = some (b, .inr (ci, fs))) : PreV s H C b (vt_P D cl tys (.ref b :: As) wc H.size) As :=
  ⟨vt_blind, va_recv hK hP hc he, fun U hU hW => ⟨(kx_preV (As := As) hK hN hP hD hc he).2.2 U hU hW, vt_Sw hW (fun q cell h1 h2 => by rw [hU]; exact hh q cell h1 h2) hTS⟩⟩
theorem vt_preS {D : va_G} {cl : List vw_C} {tys : List (ClassId × FieldType)} {wc : va_W} {A : Nat → Prop} {As : List Value} (hTS : vt_S s) (hh : ∀ (q : Nat) (cell : Cell), s.heap[q]? = some cell → cell.vm.isStatics = true → H[q]? = some cell) (hK : va_K D cl tys s) (hN : kx_N s) (hP : va_P D cl wc H) (hD : va_D A wc) : PreS s H (vt_P D cl tys As wc H.size) As :=
  ⟨vt_blind, fun U hU hW => ⟨(kx_preS (As := As) hK hN hP hD).2 U hU hW, vt_Sw hW (fun q cell h1 h2 => by rw [hU]; exact hh q cell h1 h2) hTS⟩⟩
def vt_PostT (Qc : Array Value → State → Outcome → State → Prop) (mc ms : Nat) (free : Addr → Prop) : Pt → Array Value → Addr → Pt → Prop := fun A a v B =>
  ∃ (g : JFrame) (mk : MethodId) (t : State) (L : List Loc), B.U.heap = t.heap ∧ B.U.vm = t.vm ∧ Qc a (A.U.calling g mk a) (.threw v) t ∧ B.locs = A.locs ++ L ∧ (∀ q ∈ L, free q.base) ∧ B.cells = A.cells + mc ∧ B.slots = A.slots + ms
theorem vt_back {y : MethodName} {ws : List Cond} {rm : Room} {Pc : Array Value → State → Prop} {Qc : Array Value → State → Outcome → State → Prop} {mc ms W len : Nat} {free : Addr → Prop} {bytes : ByteArray} {maxL : Nat} {ret : Option FieldType}
    (hM : vt_Met l y ws rm Pc Qc mc ms free) (hblind : FrameBlind Pc) (hrc : rm.cells = mc) (hrs : rm.slots = ms)
    (hframes : rm.frames + 1 ≤ R.frames) (hlocals : W + (maxL + 11) + rm.locals ≤ R.locals)
    (hws : ∀ w ∈ ws, ∀ a' U, s.WarmedH U.vm → w.before a' U = true) (hcode : Cond.code y bytes maxL ret ∈ ws) (hinit : ∀ a' U, s.WarmedH U.vm → (Cond.initialized y.cls).before a' U = true) :
    BackT l R p e below s args y len W (PreOf R mc ms Pc) (vt_PostT Qc mc ms free) := by
  refine BackT.of_free (S := headSpec ws rm) (P := Pc) (K := fun _ _ _ _ _ => True) (Q := fun a st o t => Qc a st o t ∧ ∃ L, FrameEndT st o t L mc ms ∧ ∀ q ∈ L, free q.base) (bytes := bytes) (maxL := maxL) (ret := ret)
    (E := fun a st o t L k n => k = mc ∧ n = ms ∧ ∀ q ∈ L, free q.base) hM hframes hlocals ?_ ?_ (fun _ _ _ _ _ _ _ _ _ => trivial) ?_ ?_
  · intro m meth c A a X hp
    exact ⟨atoms_intro fun w hw => hws w hw _ _ X.warmed, hws _ hcode _ _ X.warmed, hinit _ _ X.warmed, by rw [show (headSpec ws rm).room.cells = mc from hrc]; exact hp.1, by rw [show (headSpec ws rm).room.slots = ms from hrs]; exact hp.2.1⟩
  · intro m meth c A a g mk X hp
    exact hblind _ _ _ _ hp.2.2
  · intro a st o t ⟨hq, L, hF, hL⟩
    exact ⟨L, mc, ms, hF, rfl, rfl, hL⟩
  · intro m meth c A a g mk v t L k n X hp hq hF ⟨e1, e2, hL⟩
    subst e1; subst e2
    exact ⟨g, mk, t, L, rfl, rfl, hq.1, rfl, hL, rfl, rfl⟩
theorem vt_runV {y : MethodName} {bytes cc : ByteArray} {maxL nL mc ms n index : Nat} {ret : Option FieldType} {ws : List Cond} {rm : Room} {Pc : Array Value → State → Prop} {Qc : Array Value → State → Outcome → State → Prop} {free : Addr → Prop} {Ts : List Cond} {own C : String} {b : Addr} {As rest : List Value} {g : JFrame} (S : CallFix p m c cc nL s args Ts own) (hM : vt_Met l y ws rm Pc Qc mc ms free) (cw : CallW R s args own C index y bytes maxL ret ws rm mc ms n) (hp : PreV s H C b Pc As)
    (hg : g.method = m) (hn : As.length = n) (hsize : g.locals.size = nL) (hstack : g.stack = As.reverse ++ .ref b :: rest) (hW : 2 * g.monitorRoom + (rest.map fun v => v.category).sum ≤ 8) (hdg : decode cc g.pc = .ok (.invokevirtual index, 3)) (hf : cells + mc ≤ R.cells ∧ slots + ms ≤ R.slots) :
    ∀ T : State, T.heap = H → Stand p l e R s m args below meth c T locs cells slots → ∃ (x : Addr) (st₀ t T' : State) (L : List Loc), st₀.heap = H ∧ Stand p l e R s m args below meth c T' (locs ++ L) (cells + mc) (slots + ms) ∧ (∀ q ∈ L, free q.base) ∧ T'.heap = t.heap ∧ T'.vm = t.vm ∧ Qc (Value.ref b :: As).toArray st₀ (.threw x) t ∧
      ∀ tg, Steps p.tables e below ((T'.setTop { g with stack := rest }).pushFrame (.throwing x)) tg → Steps p.tables e below (T.setTop g) tg := by
  obtain ⟨⟨hrc, hrs, hfr, hlo, hws, hcw, hcode, hini, hy, hlen, hl⟩, hin, hse⟩ := cw
  have hK : BackT l R p e below s args y 3 8 (PreOf R mc ms Pc) (vt_PostT Qc mc ms free) := vt_back (bytes := bytes) (maxL := maxL) (ret := ret) hM hp.1 hrc hrs hfr hlo hws hcw (fun a' U hW => word_at hW (Or.inl (by first | rfl | simp [Cond.onTables, Cond.keeps, Cond.steady])) hini)
  obtain ⟨hx, hb, hml, ho, -⟩ := S
  obtain ⟨-, ⟨cellB, hcB, hoB, hclB⟩, hPc⟩ := hp
  intro T hT X
  obtain ⟨mk, methM, hnamed, hmethM, hstM, habM⟩ := Cond.instanceMethod_spec hin
  obtain ⟨methM', cM, hmethM', -, -, -, -, -, -, hsigM⟩ := Cond.code_spec hnamed hcode
  cases hmethM.symm.trans hmethM'
  obtain ⟨c2, r2, m2, q1, q2, q3, q4, kP, hkP, hkPi⟩ := Cond.selects_spec hse
  cases hclB.symm.trans q1
  cases (State.methodFound?_of_named hnamed hy).symm.trans q2
  cases hnamed.symm.trans q3
  have hselP : selectMethod e.platform s.vm cellB.cls mk = .method mk := by rw [Launch.admits_selectMethod X.admits]; exact q4
  obtain ⟨vm₁, X₁, hstep₁⟩ := X.invokevirtual hx ho hl hnamed hmethM hstM hkP hkPi hy (a := b) (cell := cellB) (by rw [hT]; exact hcB)
    (fun z h => by rw [h] at hoB; cases hoB) hselP hmethM habM hkP hkPi (g := g) hg (argsL := As) (rest := rest) (hn.trans (hlen _ hsigM)) hstack (by rw [hb]; exact hdg)
  obtain ⟨v, B, X', ⟨g', mk', t, L, e1, e2, hq, h1, hL, h2, h3⟩, hsteps⟩ := hK m meth c ⟨T.setVm vm₁, locs, cells, slots⟩ { g with stack := rest } (.invokevirtual index) mk (Value.ref b :: As).toArray X₁ hg (hsize.trans hml.symm) (by rw [hb]; exact hdg) hW (X₁.named hnamed) ⟨hf.1, hf.2, hPc (T.setVm vm₁) hT X₁.warmed⟩
  obtain ⟨U', l2, c2, s2⟩ := B
  dsimp only [Pt.U, Pt.locs, Pt.cells, Pt.slots] at X' e1 e2 h1 h2 h3 hsteps
  subst h1; subst h2; subst h3
  exact ⟨v, (T.setVm vm₁).calling g' mk' (Value.ref b :: As).toArray, t, U', L, hT, X', hL, e1, e2, hq, fun tg h => hstep₁ _ fun acts => by rw [doInvoke_state]; exact hsteps.trans h⟩
/-- a call of a method that throws, caught at once -/
theorem vt_callcatch {y : MethodName} {bytes cc : ByteArray} {maxL nL mc ms n index pc : Nat} {ret : Option FieldType} {ww : List Cond} {rm : Room} {Ts : List Cond} {own C X : String} {b : Addr} {As rest : List Value} {ls : Array Slot} {D : va_G} {cl : List vw_C} {tys : List (ClassId × FieldType)} {A : Nat → Prop} {ws wc wr : va_W} {x : ExceptionTableEntry} (S : CallFix p m c cc nL s args Ts own) (hM : vt_Met l y ww rm (vt_P D cl tys (.ref b :: As) wc H.size) (vt_Q X D cl tys (va_A wc H.size) wc) mc ms (va_A wc H.size)) (cw : CallW R s args own C index y bytes maxL ret ww rm mc ms n) (hp : PreV s H C b (vt_P D cl tys (.ref b :: As) wc H.size) As)
    (hn : As.length = n) (hsize : ls.size = nL) (hW : 2 * 0 + (rest.map fun v => v.category).sum ≤ 8) (hdg : decode cc pc = .ok (.invokevirtual index, 3)) (hf : cells + mc ≤ R.cells ∧ slots + ms ≤ R.slots)
    (htab : c.exceptionTable.toList = [x]) (hcov : covers x pc = true) (h0 : x.catchType ≠ 0) (hlink : (Cond.classLink own x.catchType X).before args s = true) (hcast : (Cond.castable X X).before args s = true)
    (hP : va_P D cl ws H) (hD : va_D A ws) (hS : va_S A s.heap H locs) (hA : ∀ q, s.heap.size ≤ q → A q) (isC isR : List Nat) (hC : isC.map (fun i => ws[i]?) = wc.map some) (hR : isR.map (fun i => ws[i]?) = wr.map some) (hnd : va_nd isR = true) (hdis : ∀ i ∈ isR, i ∉ isC)
    (kk : ∀ (xa : Nat) (H1 : Heap) (locs1 : List Loc), va_P D cl (wr ++ wc) H1 → va_D A (wr ++ wc) → va_S A s.heap H1 locs1 → W p l e R s m args below meth c H1 locs1 (cells + mc) (slots + ms) Q (F0 m x.handlerPc ls [.ref xa])) : W p l e R s m args below meth c H locs cells slots Q (F0 m pc ls (As.reverse ++ .ref b :: rest)) := by
  intro T hT X9
  obtain ⟨xa, st₀, t, T', L, hst0, X', hL, e1, e2, ⟨⟨xa', cell, hxa, g1, g2, g3, g4, g5, g6, g7⟩, gz, gF⟩, hgo⟩ := vt_runV (g := F0 m pc ls (As.reverse ++ .ref b :: rest)) (rest := rest) S hM cw hp rfl hn hsize rfl hW hdg hf T hT X9
  cases hxa
  have hFc := va_free (wc := wc) hD hS hA isC hC
  obtain ⟨c3, c4, hc3, hc4, hasg⟩ := Cond.castable_spec hcast
  have hc5 : s.vm.findClass X = some cell.cls := by
    have := X'.warmed.alike.findClass X none
    rw [e2] at this
    exact this.symm.trans g3
  cases hc3.symm.trans hc5
  cases hc4.symm.trans hc5
  obtain ⟨vm', XV, stV⟩ := X'.caughtLink xa (g := { F0 m pc ls (As.reverse ++ .ref b :: rest) with stack := rest }) rfl S.2.2.2.1 [] x [] htab (fun _ h => by cases h) hcov h0 hlink hc5 (by rw [e1]; exact g1) g2 hasg
  rw [hst0] at gz gF
  obtain ⟨hP', hD'⟩ := va_join (wr := wr) (w1 := wc) hP hD isC isR hC hR hnd hdis gF hFc g4 g6
  obtain ⟨t2, a1, b1⟩ := kk xa t.heap (locs ++ L) hP' hD' ⟨Nat.le_trans hS.1 gz, fun q h1 h2 => by rw [gF q (Nat.lt_of_lt_of_le h1 hS.1) (fun z => h2 (hFc q z))]; exact hS.2.1 q h1 h2, fun q hq => by
      rcases List.mem_append.mp hq with h | h
      · exact hS.2.2 q h
      · exact hFc _ (hL q h)⟩ (T'.setVm vm') e1 XV
  refine ⟨t2, hgo _ ?_, b1⟩
  rw [X'.pushThrowing_eq]
  exact stV t2 a1
end VT2
