-- what is thrown: a contract that ends in 'threw', the row that throws, the row that catches
def vt_X : List Cond := [.laysStatic "java/lang/Throwable" "UNASSIGNED_STACK" "[Ljava/lang/StackTraceElement;", .laysStatic "java/lang/Throwable" "SUPPRESSED_SENTINEL" "Ljava/util/List;", .isRef (.static "java/lang/Throwable" "UNASSIGNED_STACK" "[Ljava/lang/StackTraceElement;"), .isRef (.static "java/lang/Throwable" "SUPPRESSED_SENTINEL" "Ljava/util/List;")]
def vt_Y : List Cond := lw_tbl.filter (fun w => !goodWord w && w.onTables && w.keepsFace)
def vt_Z : List Cond := [.stringRef "LineDesk" 99 "there are no items", .stringRef "LineDesk" 108 "there are too many breaks", .stringRef "LineDesk" 120 "there is no such line", .stringRef "LineDesk" 138 "there is no such what"]
def vt_S (U : State) : Prop := (∀ w ∈ vt_X, ∀ A, w.before A U = true) ∧ (∀ w ∈ vt_Y, ∀ A, w.before A U = true) ∧ (∀ w ∈ vt_Z, ∀ A, w.before A U = true)
theorem vt_hst {s U : State} {o n d : String} {A : Array Value} (hv : s.vm = U.vm) (hh : ∀ (q : Nat) (cell : Cell), s.heap[q]? = some cell → cell.vm.isStatics = true → U.heap[q]? = some cell) (h : ∀ A, (Cond.isRef (.static o n d)).before A s = true) : (Cond.isRef (.static o n d)).before A U = true := by
  have h1 := h A
  simp only [Cond.before, Cond.holds, Cond.value] at h1 ⊢
  cases hv1 : (Term.static o n d).eval A s none [] s with
  | none => rw [hv1] at h1; exact absurd h1 (by simp)
  | some v =>
    rw [hv1] at h1
    cases hi : s.fieldFound? o n d with
    | none => simp [Term.eval, State.fieldNamed?, hi] at hv1
    | some w =>
      obtain ⟨c, k, i, f⟩ := w
      obtain ⟨hst, a, cell, ha, hcell, -, hslot⟩ := Term.static_spec hi hv1
      have hs : cell.vm.isStatics = true := by
        simp only [Term.eval, State.fieldNamed?, hi, Option.bind_eq_bind, Option.bind_some, hst, beq_self_eq_true, if_true, Option.pure_def, ha, hcell] at hv1
        by_cases h' : cell.vm.isStatics = true
        · exact h'
        · simp [h'] at hv1
      have hi' : U.fieldFound? o n d = some (c, k, i, f) := by
        have e1 : U.fieldFound? o n d = s.fieldFound? o n d := by unfold State.fieldFound?; rw [hv]
        rw [e1]; exact hi
      rw [Term.static_eval (s := U) hi' hst ha (hh a cell hcell hs) hs hslot]
      exact h1
theorem vt_lst {s U : State} {o n d : String} {A : Array Value} (hv : s.vm = U.vm) (hh : ∀ (q : Nat) (cell : Cell), s.heap[q]? = some cell → cell.vm.isStatics = true → U.heap[q]? = some cell) (h : ∀ A, (Cond.laysStatic o n d).before A s = true) : (Cond.laysStatic o n d).before A U = true := by
  have h1 := h A
  have e1 : U.fieldFound? o n d = s.fieldFound? o n d := by unfold State.fieldFound?; rw [hv]
  simp only [Cond.before, Cond.holds, Cond.value] at h1 ⊢
  rw [← hv, e1]
  cases hc : s.vm.findClass o with
  | none => rw [hc] at h1; simp at h1
  | some c =>
    cases hi : s.fieldFound? o n d with
    | none => rw [hc, hi] at h1; simp at h1
    | some w =>
      obtain ⟨c', k, i, f⟩ := w
      rw [hc, hi] at h1
      cases ha : k.statics with
      | none => simp [ha] at h1
      | some a =>
        cases hcell : s.heap[a]? with
        | none => simp [ha, hcell] at h1
        | some cell =>
          have hs : cell.vm.isStatics = true := by simp [ha, hcell] at h1; exact h1.1.1.1.2
          simp only [ha, hcell, hh a cell hcell hs, Option.bind_some] at h1 ⊢
          exact h1
theorem vt_sr {s U : State} {o tx : String} {k : Nat} {A : Array Value} (hv : s.vm = U.vm) (h : (Cond.stringRef o k tx).before A s = true) : (Cond.stringRef o k tx).before A U = true := by
  simp only [Cond.before, Cond.holds, Cond.value, State.names, State.poolOf?, State.resolvedAt?, hv] at h ⊢
  exact h
theorem vt_Sh {s U : State} (hv : s.vm = U.vm) (hh : ∀ (q : Nat) (cell : Cell), s.heap[q]? = some cell → cell.vm.isStatics = true → U.heap[q]? = some cell) (h : vt_S s) : vt_S U := by
  refine ⟨fun w hw A => ?_, fun w hw A => va_tabs (by have := (List.mem_filter.mp hw).2; simp only [Bool.and_eq_true] at this; exact this.1.2) hv (h.2.1 w hw A), fun w hw A => ?_⟩
  · have h0 := h.1
    simp only [vt_X, List.mem_cons, List.not_mem_nil, or_false] at hw
    rcases hw with rfl | rfl | rfl | rfl
    · exact vt_lst hv hh (h0 _ (by simp [vt_X]))
    · exact vt_lst hv hh (h0 _ (by simp [vt_X]))
    · exact vt_hst hv hh (h0 _ (by simp [vt_X]))
    · exact vt_hst hv hh (h0 _ (by simp [vt_X]))
  · have h0 := h.2.2 w hw A
    simp only [vt_Z, List.mem_cons, List.not_mem_nil, or_false] at hw
    rcases hw with rfl | rfl | rfl | rfl <;> exact vt_sr hv h0
theorem vt_Sw {s U : State} (hW : s.WarmedH U.vm) (hh : ∀ (q : Nat) (cell : Cell), s.heap[q]? = some cell → cell.vm.isStatics = true → U.heap[q]? = some cell) (h : vt_S s) : vt_S U := by
  refine vt_Sh (s := s.setVm U.vm) rfl hh ⟨fun w hw A => ?_, fun w hw A => ?_, fun w hw A => ?_⟩
  · refine Cond.before_shiftedFace (State.Shifted.of_warmed hW) _ ?_ (h.1 w hw A)
    simp only [vt_X, List.mem_cons, List.not_mem_nil, or_false] at hw
    rcases hw with rfl | rfl | rfl | rfl <;> rfl
  · refine Cond.before_shiftedFace (State.Shifted.of_warmed hW) _ ?_ (h.2.1 w hw A)
    have := (List.mem_filter.mp hw).2
    simp only [Bool.and_eq_true] at this
    exact this.2
  · have h0 := h.2.2 w hw A
    simp only [vt_Z, List.mem_cons, List.not_mem_nil, or_false] at hw
    rcases hw with rfl | rfl | rfl | rfl <;> exact Cond.stringRef_warmed hW h0
theorem vt_lt {q : Nat} {H : Heap} {cell : Cell} (h : H[q]? = some cell) : q < H.size := (Array.getElem?_eq_some_iff.mp h).1
theorem vt_ref {s : State} {o tx : String} {k : Nat} (h : ∀ A, (Cond.stringRef o k tx).before A s = true) : ∃ q, vk_R o k tx q s := by
  have h0 := h #[]
  have h1 := h0
  simp only [Cond.before, Cond.holds, Cond.value] at h1
  cases hc : s.vm.findClass o with
  | none => rw [hc] at h1; simp at h1
  | some c =>
    rw [hc] at h1
    cases hr : s.resolvedAt? o k with
    | none => rw [hr] at h1; simp at h1
    | some r =>
      cases r with
      | string a =>
        refine ⟨a, h0, ?_⟩
        simp only [State.resolvedAt?, hc, Option.bind_some, Option.bind_eq_bind] at hr
        simp only [Term.eval, hc, Option.bind_eq_bind, Option.bind_some]
        cases hk : s.vm.classes[c]? with
        | none => rw [hk] at hr; simp at hr
        | some kl =>
          rw [hk] at hr
          simp only [Option.bind_some] at hr ⊢
          cases hz : kl.resolved[k]? with
          | none => rw [hz] at hr; simp at hr
          | some z => rw [hz] at hr; simp_all
      | _ => rw [hr] at h1; simp at h1
section KV
variable {p : Program} {l : Launch} {e : Env} {R : Room} {s : State} {m : MethodId} {args : Array Value} {below : List Frame} {meth : Method} {c : Code} {H : Heap} {locs : List Loc} {cells slots : Nat} {Q : State → Prop}
def vt_Met (l : Launch) (y : MethodName) (ws : List Cond) (rm : Room) (Pc : Array Value → State → Prop) (Qc : Array Value → State → Outcome → State → Prop) (mc ms : Nat) (free : Addr → Prop) : Prop :=
  MetFree l y (headSpec ws rm) Pc (fun _ _ _ _ _ => True) (fun a st o t => Qc a st o t ∧ ∃ L, FrameEndT st o t L mc ms ∧ ∀ q ∈ L, free q.base)
def vt_MQ (below : List Frame) (Qc : Array Value → State → Outcome → State → Prop) (a : Array Value) (s : State) (mc ms : Nat) (free : Addr → Prop) : State → Prop := fun t =>
  ∃ o, t.status = .running ∧ Ended t below o ∧ Qc a s o t ∧ ∃ L, FrameEndT s o t L mc ms ∧ ∀ q ∈ L, free q.base
theorem vt_ofW {y : MethodName} {ws ws' : List Cond} {rm : Room} {Pc : Array Value → State → Prop} {Qc : Array Value → State → Outcome → State → Prop} {mc ms : Nat} {free : Addr → Prop} {cc : ByteArray} {maxL : Nat} {ret : Option FieldType}
    (hy : plainName y.cls = true) (hw : ws = Cond.code y cc maxL ret :: ws')
    (body : ∀ p e s m args below meth c s₁, BodyLoose p l y (headSpec ws rm) cc maxL ret e s m args below meth c s₁ → c.maxLocals = maxL → Pc args s →
      W p l e (headSpec ws rm).room s m args below meth c s.heap [] 0 0 (vt_MQ below Qc args s mc ms free) (entryFrame m args maxL)) : vt_Met l y ws rm Pc Qc mc ms free := by
  refine MetFree.of_bodyS (code := cc) (maxLocals := maxL) (ret := ret) hy ?_ ?_
  · intro args s m h hn
    obtain ⟨meth, c, h1, h2, h3, h4, h5, h6, -, -⟩ := Cond.code_spec hn (atoms_spec (ws := ws) h _ (by rw [hw]; exact List.mem_cons_self))
    exact ⟨meth, c, h1, h2, h3, h4, h5, h6⟩
  · intro p e s m args below meth c s₁ B hml hP _
    have hh0 : s₁.heap = s.heap := by rw [B.state]; rfl
    obtain ⟨t, a1, o, b1, b2, b3⟩ := body p e s m args below meth c s₁ B hml hP s₁ hh0 (Stand.of_body B)
    exact ⟨t, o, a1, b1, b2, ⟨b3.1, b3.2⟩⟩
theorem vt_drop (H : Heap) : H.toList.drop H.size = [] := List.drop_eq_nil_of_le (by rw [Array.length_toList]; exact Nat.le_refl _)
theorem vt_fr (s : State) (fr F : List Frame) (h : Heap) (u : Nat) : ({ s.setFrames fr with heap := h, slotsUsed := u } : State).setFrames F = { s.setFrames F with heap := h, slotsUsed := u } := by
  have h1 : ({ s.setFrames fr with heap := h, slotsUsed := u } : State).setFrames F = { (s.setFrames fr).setFrames F with heap := h, slotsUsed := u } := rfl
  rw [h1, State.setFrames_setFrames]
/-- the walk as if it began here -/
theorem vt_rebase {Qc : Array Value → State → Outcome → State → Prop} {free : Addr → Prop} {g : JFrame} {k n : Nat} (hc : cells ≤ R.cells) (hs : slots ≤ R.slots) (hf : ∀ q ∈ locs, free q.base)
    (kk : ∀ (u : Nat), W p l e { R with cells := R.cells - cells, slots := R.slots - slots } { s with heap := H, slotsUsed := u } m args below meth c H [] 0 0 (vt_MQ below (fun _ _ => Qc args s) args { s with heap := H, slotsUsed := u } k n free) g) :
    W p l e R s m args below meth c H locs cells slots (vt_MQ below Qc args s (cells + k) (slots + n) free) g := by
  intro T hT X
  subst hT
  have hsm := X.same
  obtain ⟨e1, q1, q2, q3, q4, q5⟩ := id hsm
  have X' : Stand p l e { R with cells := R.cells - cells, slots := R.slots - slots } { s with heap := T.heap, slotsUsed := T.slotsUsed } m args below meth c T [] 0 0 := by
    refine ⟨X.admits, X.cas, X.clock, X.frames, ?_, X.hears, X.method, X.code, X.here, X.tail, X.warmed, X.limits, X.bytes, ?_⟩
    · have hr := X.room
      have hb := X.book
      simp only [State.hasRoom, Bool.and_eq_true, decide_eq_true_eq] at hr ⊢
      obtain ⟨⟨⟨⟨r1, r2⟩, r3⟩, r4⟩, r5⟩ := hr
      refine ⟨⟨⟨⟨r1, r2⟩, ?_⟩, ?_⟩, hb⟩
      · have := X.heapSize
        show T.heap.size + (R.cells - cells) ≤ _
        omega
      · have h3 : T.slotsUsed = s.slotsUsed + (((T.setVm s.vm).heap.toList.drop s.heap.size).map (·.slots.size)).sum := q3
        show T.slotsUsed + (R.slots - slots) ≤ _
        omega
    · refine ⟨?_, Nat.le_refl _, Nat.le_refl _, ?_, ?_, fun a cl h => ⟨cl, h, rfl, rfl, fun _ _ => rfl⟩⟩
      · exact e1
      · show T.slotsUsed = T.slotsUsed + ((T.heap.toList.drop T.heap.size).map (·.slots.size)).sum
        rw [vt_drop]; rfl
      · show ((T.heap.toList.drop T.heap.size).map (·.slots.size)).sum ≤ 0
        rw [vt_drop]; exact Nat.le_refl _
  obtain ⟨t, a1, o, b1, b2, b3, L, ⟨hx, hW, hsame⟩, hL⟩ := kk T.slotsUsed T rfl X'
  refine ⟨t, a1, o, b1, b2, b3, locs ++ L, ⟨hx, hW, hsm.trans ?_⟩, fun q hq => ?_⟩
  · obtain ⟨f1, f2, f3, f4, f5, f6⟩ := hsame
    refine ⟨?_, f2, f3, f4, f5, f6⟩
    rw [e1]
    refine Eq.trans f1 ?_
    show _ = ({ (({ s.setFrames (T.setVm s.vm).frames with heap := T.heap, slotsUsed := T.slotsUsed } : State).setFrames _) with heap := t.heap, slotsUsed := t.slotsUsed } : State)
    rw [vt_fr]
    rfl
  · rcases List.mem_append.mp hq with h | h
    · exact hf q h
    · exact hL q h
/-- an exception of class X is on its way: the world is as it was -/
def vt_Q (X : String) (D : va_G) (cl : List vw_C) (tys : List (ClassId × FieldType)) (A : Nat → Prop) (ws : va_W) : Array Value → State → Outcome → State → Prop := fun _ st oc t => (∃ (x : Nat) (cell : Cell), oc = .threw x ∧ t.heap[x]? = some cell ∧ cell.vm.isStatics = false ∧ t.vm.findClass X = some cell.cls ∧ va_P D cl ws t.heap ∧ va_K D cl tys t ∧ va_D A ws ∧ kx_N t) ∧ va_F A st t
theorem vt_old {s t : State} {k n : Nat} (h : s.sameButNew t [] k n) {q : Nat} {cell : Cell} (hq : s.heap[q]? = some cell) : t.heap[q]? = some cell := by
  obtain ⟨c', h1, h2, h3, h4⟩ := h.2.2.2.2.2 q cell hq
  have e1 : c'.slots = cell.slots := Array.ext_getElem? (fun i => h4 i (by simp))
  rw [h1, h2, e1]
theorem vt_Pk {D : va_G} {cl : List vw_C} {ws : va_W} {H H1 : Heap} (hP : va_P D cl ws H) (h : ∀ q : Nat, q < H.size → H1[q]? = H[q]?) : va_P D cl ws H1 := fun k q hk => (hP k q hk).kept (h q.1 (hP k q hk).lt)
/-- new X("text"), thrown -/
theorem vt_thrown {cc : ByteArray} {D : va_G} {cl : List vw_C} {tys : List (ClassId × FieldType)} {A : Nat → Prop} {ws : va_W} {ls : Array Slot} {pc nL ia ib ic : Nat} {own X tx : String} {names : List String} (hfl : l.flags = flags0) (hx : p.tables.exec = Jvm.exec) (hb : c.code = cc) (hlocks : meth.locks = false) (hno : c.exceptionTable.isEmpty = true) (hml : c.maxLocals = nL) (hls : ls.size = nL) (hown : s.vm.findClass own = some m.cls)
    (hcl : (Cond.classLink own ia X).before args s = true) (hini : (Cond.initialized X).before args s = true) (hTS : vt_S s) (hAt : ∀ u : State, u.vm = s.vm → vt_S u → ∀ a ∈ Bundle.ownAtoms own ic X names, a.before args u = true) (hfX : Bundle.fit X = true) (hfN : ∀ n ∈ names, Bundle.fit n = true) (hz : Cond.stringRef own ib tx ∈ vt_Z)
    (d0 : decode cc pc = .ok (.new ia, 3)) (d3 : decode cc (pc + 3) = .ok (.dup, 1)) (d4 : decode cc (pc + 4) = .ok (.ldc ib, 2)) (d6 : decode cc (pc + 6) = .ok (.invokespecial ic, 3)) (d9 : decode cc (pc + 9) = .ok (.athrow, 1))
    (hS : va_S A s.heap H locs) (hA : ∀ q, s.heap.size ≤ q → A q) (hst : ∀ (q : Nat) (cell : Cell), A q → s.heap[q]? = some cell → cell.vm.isStatics = false)
    (hR : cells + 1 ≤ R.cells ∧ slots + 6 ≤ R.slots ∧ names.length + 3 < R.frames ∧ 13 * (names.length + 1) + 43 ≤ R.locals) (hP : va_P D cl ws H) (hD : va_D A ws) (hK : va_K D cl tys s) (hN : kx_N s) :
    W p l e R s m args below meth c H locs cells slots (vt_MQ below (vt_Q X D cl tys A ws) args s (cells + 1) (slots + 6) A) (F0 m pc ls []) := by
  refine vt_rebase (by omega) (by omega) hS.2.2 (fun u => ?_)
  generalize hs' : ({ s with heap := H, slotsUsed := u } : State) = s'
  have hv : s'.vm = s.vm := by rw [← hs']
  have hh : s'.heap = H := by rw [← hs']
  have hTS' : vt_S s' := vt_Sh hv.symm (fun q cell hq hs => by
    rw [hh, hS.2.1 q (vt_lt hq) (fun ha => by rw [hst q cell ha hq] at hs; cases hs)]; exact hq) hTS
  have hown' : s'.vm.findClass own = some m.cls := by rw [hv]; exact hown
  obtain ⟨qs, hqs⟩ := vt_ref (hTS'.2.2 _ hz)
  have hAt' := hAt s' hv hTS'
  have hins : (Cond.instantiable X 6).before args s' = true := hAt' _ (by simp [Bundle.ownAtoms])
  refine W.newc (n := 6) hx hb hown' (va_tabs rfl hv.symm hcl) hins (va_tabs rfl hv.symm hini) rfl d0 (by show 0 + 1 ≤ R.cells - cells; omega) (by show 0 + 6 ≤ R.slots - slots; omega) (fun cC kC hC hkC _ _ => ?_)
  refine lv_dup hx hb d3 rfl ?_
  refine va_ldcS hx hb hown' hqs d4 ?_
  intro T hT XT
  have htr : e.platform.stackTraces = false := Launch.traces_off hfl XT.admits
  have hsz : s'.heap.size = H.size := by rw [hh]
  obtain ⟨U, st, h1, h2, h3, h4, ce, h5, h6⟩ := XT.ctorThrowS hx htr hown' hfX hfN hAt' (fun x hx => by cases hx) (a := H.size) hC hkC (by rw [hT]; exact Array.getElem?_push_size) (by rw [hsz]; exact Nat.le_refl _) (msg := .ref qs) rfl (g := F0 m (pc + 6) ls [.ref qs, .ref H.size, .ref H.size]) rfl (hls.trans hml.symm) rfl rfl (rest := []) rfl (by rw [hb]; exact d6) (by rw [hb]; exact d9) (covers_of_empty hno _) hR.2.2.1 (by have := hR.2.2.2; show 2 * 0 + (1 + 0) + (13 * (names.length + 1) + 42) ≤ R.locals; omega) hlocks
  have hold : ∀ q : Nat, q < H.size → U.heap[q]? = H[q]? := fun q hq => by
    have e1 : s'.heap[q]? = some H[q] := by rw [hh]; exact Array.getElem?_eq_getElem hq
    have e2 := vt_old h4 e1
    rw [show U.heap[q]? = some H[q] from e2, Array.getElem?_eq_getElem hq]
  have hal : s.vm.Alike U.vm := by rw [← hv]; exact h3.alike
  have hWs : s.WarmedH U.vm := by rw [← hs'] at h3; exact h3
  refine ⟨U, st, .threw H.size, h1, h2, ⟨⟨H.size, ce, rfl, h5, by rw [h6.vm]; rfl, ?_, vt_Pk hP hold, va_K.moved hal hK, hD, kx_Nm hWs hN⟩, ?_⟩, [], ⟨⟨_, rfl⟩, h3, h4⟩, fun q hq => by cases hq⟩
  · rw [hal.findClass, ← hv]; exact h6.cls
  · have hz2 : s'.heap.size ≤ U.heap.size := h4.2.1
    refine ⟨by rw [hsz] at hz2; exact Nat.le_trans hS.1 hz2, fun q hq ha => ?_⟩
    rw [hold q (Nat.lt_of_lt_of_le hq hS.1)]; exact hS.2.1 q hq ha
end KV
