/-! items: where a break may be -/
abbrev pk_bc (ik : Nat → Int32) (cn i : Nat) : Prop := (i < cn ∧ ik i = nI 0) ∨ (i < cn ∧ ik i = nI 4)
abbrev pk_fl (ik fl : Nat → Int32) (cn i : Nat) (f : Int32) : Prop := (i < cn ∧ ik i = nI 4) ∧ ¬ fl i &&& f = 0
abbrev pk_br (ik ic fl : Nat → Int32) (cn : Nat) (au : Int32) (i : Nat) : Prop := if i < cn then (if ik i = nI 1 then (1 ≤ i ∧ i - 1 < cn ∧ ik (i - 1) = nI 0) ∨ (1 ≤ i ∧ i - 1 < cn ∧ ik (i - 1) = nI 4) else if ik i = nI 2 then (i + 1 < cn ∧ ik (i + 1) = nI 1) else if ik i = nI 3 then ¬ nI 10000 ≤ ic i else if ik i = nI 4 then (¬ au = 0 ∨ ¬ pk_fl ik fl cn i (nI 4)) else False) else False
theorem kt_3_0_1 {c0 c1 c2 : Nat × va_E} : ([0, 1] : List Nat).filterMap (fun i => ([c0, c1, c2] : va_W)[i]?) = ([c0, c1] : va_W) := rfl
theorem ks_3_0_1 {c0 c1 c2 : Nat × va_E} : ([0, 1] : List Nat).map (fun i => ([c0, c1, c2] : va_W)[i]?) = ([c0, c1] : va_W).map some := rfl
theorem ks_3_2 {c0 c1 c2 : Nat × va_E} : ([2] : List Nat).map (fun i => ([c0, c1, c2] : va_W)[i]?) = ([c2] : va_W).map some := rfl
theorem kt_3_1_2_0 {c0 c1 c2 : Nat × va_E} : ([1, 2, 0] : List Nat).filterMap (fun i => ([c0, c1, c2] : va_W)[i]?) = ([c1, c2, c0] : va_W) := rfl
theorem ks_3_1_2_0 {c0 c1 c2 : Nat × va_E} : ([1, 2, 0] : List Nat).map (fun i => ([c0, c1, c2] : va_W)[i]?) = ([c1, c2, c0] : va_W).map some := rfl
theorem kt_4_0_1 {c0 c1 c2 c3 : Nat × va_E} : ([0, 1] : List Nat).filterMap (fun i => ([c0, c1, c2, c3] : va_W)[i]?) = ([c0, c1] : va_W) := rfl
theorem ks_4_0_1 {c0 c1 c2 c3 : Nat × va_E} : ([0, 1] : List Nat).map (fun i => ([c0, c1, c2, c3] : va_W)[i]?) = ([c0, c1] : va_W).map some := rfl
theorem ks_4_2_3 {c0 c1 c2 c3 : Nat × va_E} : ([2, 3] : List Nat).map (fun i => ([c0, c1, c2, c3] : va_W)[i]?) = ([c2, c3] : va_W).map some := rfl
theorem kt_4_2_3_0_1 {c0 c1 c2 c3 : Nat × va_E} : ([2, 3, 0, 1] : List Nat).filterMap (fun i => ([c0, c1, c2, c3] : va_W)[i]?) = ([c2, c3, c0, c1] : va_W) := rfl
theorem ks_4_2_3_0_1 {c0 c1 c2 c3 : Nat × va_E} : ([2, 3, 0, 1] : List Nat).map (fun i => ([c0, c1, c2, c3] : va_W)[i]?) = ([c2, c3, c0, c1] : va_W).map some := rfl
theorem kt_4_0_1_3 {c0 c1 c2 c3 : Nat × va_E} : ([0, 1, 3] : List Nat).filterMap (fun i => ([c0, c1, c2, c3] : va_W)[i]?) = ([c0, c1, c3] : va_W) := rfl
theorem ks_4_0_1_3 {c0 c1 c2 c3 : Nat × va_E} : ([0, 1, 3] : List Nat).map (fun i => ([c0, c1, c2, c3] : va_W)[i]?) = ([c0, c1, c3] : va_W).map some := rfl
theorem ks_4_2 {c0 c1 c2 c3 : Nat × va_E} : ([2] : List Nat).map (fun i => ([c0, c1, c2, c3] : va_W)[i]?) = ([c2] : va_W).map some := rfl
theorem kt_4_1_2_0_3 {c0 c1 c2 c3 : Nat × va_E} : ([1, 2, 0, 3] : List Nat).filterMap (fun i => ([c0, c1, c2, c3] : va_W)[i]?) = ([c1, c2, c0, c3] : va_W) := rfl
theorem ks_4_1_2_0_3 {c0 c1 c2 c3 : Nat × va_E} : ([1, 2, 0, 3] : List Nat).map (fun i => ([c0, c1, c2, c3] : va_W)[i]?) = ([c1, c2, c0, c3] : va_W).map some := rfl
theorem kw_47 : Cond.initialized rr_It ∈ kx_T := kx_in (i := 47) (by decide +kernel) (by decide +kernel)
theorem kw_135 : Cond.fieldLink rr_It (15) "LineDesk$Items" "cost" "[I" ∈ kx_T := kx_in (i := 135) (by decide +kernel) (by decide +kernel)
theorem kw_141 : Cond.fieldLink rr_It (24) "LineDesk$Items" "flags" "[I" ∈ kx_T := kx_in (i := 141) (by decide +kernel) (by decide +kernel)
theorem kw_592 : Cond.methodLink rr_It (65) yy_It_isBoxOrCut ∈ kx_T := kx_in (i := 592) (by decide +kernel) (by decide +kernel)
theorem kw_593 : Cond.instanceMethod yy_It_isBoxOrCut ∈ kx_T := kx_in (i := 593) (by decide +kernel) (by decide +kernel)
theorem kw_594 : Cond.selects rr_It yy_It_isBoxOrCut yy_It_isBoxOrCut ∈ kx_T := kx_in (i := 594) (by decide +kernel) (by decide +kernel)
set_option maxRecDepth 100000 in
theorem kw_595 : Cond.code yy_It_isBoxOrCut bb_It_isBoxOrCut 2 (some .boolean) ∈ kx_T := kx_in (i := 595) rfl (by decide +kernel)
theorem kw_596 : Cond.methodLink rr_It (61) yy_It_isKind ∈ kx_T := kx_in (i := 596) (by decide +kernel) (by decide +kernel)
theorem kw_597 : Cond.instanceMethod yy_It_isKind ∈ kx_T := kx_in (i := 597) (by decide +kernel) (by decide +kernel)
theorem kw_598 : Cond.selects rr_It yy_It_isKind yy_It_isKind ∈ kx_T := kx_in (i := 598) (by decide +kernel) (by decide +kernel)
set_option maxRecDepth 100000 in
theorem kw_599 : Cond.code yy_It_isKind bb_It_isKind 3 (some .boolean) ∈ kx_T := kx_in (i := 599) rfl (by decide +kernel)
theorem kw_600 : Cond.methodLink rr_It (69) yy_It_hasFlag ∈ kx_T := kx_in (i := 600) (by decide +kernel) (by decide +kernel)
theorem kw_601 : Cond.instanceMethod yy_It_hasFlag ∈ kx_T := kx_in (i := 601) (by decide +kernel) (by decide +kernel)
theorem kw_602 : Cond.selects rr_It yy_It_hasFlag yy_It_hasFlag ∈ kx_T := kx_in (i := 602) (by decide +kernel) (by decide +kernel)
set_option maxRecDepth 100000 in
theorem kw_603 : Cond.code yy_It_hasFlag bb_It_hasFlag 3 (some .boolean) ∈ kx_T := kx_in (i := 603) rfl (by decide +kernel)
theorem dd_It_isBoxOrCut_0 : decode bb_It_isBoxOrCut 0 = .ok (.aload_n 0, 1) := by decide +kernel
theorem dd_It_isBoxOrCut_1 : decode bb_It_isBoxOrCut 1 = .ok (.iload_n 1, 1) := by decide +kernel
theorem dd_It_isBoxOrCut_2 : decode bb_It_isBoxOrCut 2 = .ok (.iconst 0, 1) := by decide +kernel
theorem dd_It_isBoxOrCut_3 : decode bb_It_isBoxOrCut 3 = .ok (.invokevirtual 61, 3) := by decide +kernel
theorem dd_It_isBoxOrCut_6 : decode bb_It_isBoxOrCut 6 = .ok (.ifCond .ne (12), 3) := by decide +kernel
theorem dd_It_isBoxOrCut_9 : decode bb_It_isBoxOrCut 9 = .ok (.aload_n 0, 1) := by decide +kernel
theorem dd_It_isBoxOrCut_10 : decode bb_It_isBoxOrCut 10 = .ok (.iload_n 1, 1) := by decide +kernel
theorem dd_It_isBoxOrCut_11 : decode bb_It_isBoxOrCut 11 = .ok (.iconst 4, 1) := by decide +kernel
theorem dd_It_isBoxOrCut_12 : decode bb_It_isBoxOrCut 12 = .ok (.invokevirtual 61, 3) := by decide +kernel
theorem dd_It_isBoxOrCut_15 : decode bb_It_isBoxOrCut 15 = .ok (.ifCond .eq (7), 3) := by decide +kernel
theorem dd_It_isBoxOrCut_18 : decode bb_It_isBoxOrCut 18 = .ok (.iconst 1, 1) := by decide +kernel
theorem dd_It_isBoxOrCut_19 : decode bb_It_isBoxOrCut 19 = .ok (.goto (4), 3) := by decide +kernel
theorem dd_It_isBoxOrCut_22 : decode bb_It_isBoxOrCut 22 = .ok (.iconst 0, 1) := by decide +kernel
theorem dd_It_isBoxOrCut_23 : decode bb_It_isBoxOrCut 23 = .ok (.ireturn, 1) := by decide +kernel

set_option maxHeartbeats 4000000 in
set_option maxRecDepth 100000 in
theorem ct_It_isBoxOrCut (l : Launch) (D : va_G) (cI cJ cZ : ClassId) (sz : Nat) (t : Nat) (cn : Nat) (i1 : Nat) (i2 : Nat) (i3 : Nat) (i4 : Nat) (i5 : Nat) (i6 : Nat) (i7 : Nat) (i8 : Nat) (i9 : Nat) (ln : Nat) (ik : Nat → Int32) (i : Nat) (hi : i < 2 ^ 30) (hc : cn ≤ ln) (hln : ln < 2 ^ 30) : kx_Mi l yy_It_isBoxOrCut ww_It_isBoxOrCut ({ frames := 1, cells := 0, slots := 0, locals := 22 }) D vwCl (kx_ty cI cJ cZ) [.ref t, .int (nI i)] [(t, .inr (4, [.int (nI cn), .ref i1, .ref i2, .ref i3, .ref i4, .ref i5, .ref i6, .ref i7, .ref i8, .ref i9])), (i1, .inl (cI, ln, .inl ik))] sz (fun (r : Int32) (u : Unit) => r = kb_p (pk_bc ik cn i)) (fun (u : Unit) => [(t, .inr (4, [.int (nI cn), .ref i1, .ref i2, .ref i3, .ref i4, .ref i5, .ref i6, .ref i7, .ref i8, .ref i9])), (i1, .inl (cI, ln, .inl ik))]) 0 0 := by
  refine kx_starti (by decide) rfl (Nat.le_of_ble_eq_true rfl) ?_
  intro p e s m below meth c A ls hx hb hr hml hts hown hlocks hin hP hK hN hD hA hS hl
  have hl : lv_has ls 2 [(0, .ref t), (1, .int (nI i))] := hl
  have hown : s.vm.findClass rr_It = some m.cls := hown
  obtain ⟨H, hH⟩ : ∃ H, H = s.heap := ⟨_, rfl⟩
  obtain ⟨locs, hlocs⟩ : ∃ z : List Loc, z = [] := ⟨_, rfl⟩
  have hP : va_P D vwCl [(t, .inr (4, [.int (nI cn), .ref i1, .ref i2, .ref i3, .ref i4, .ref i5, .ref i6, .ref i7, .ref i8, .ref i9])), (i1, .inl (cI, ln, .inl ik))] H := by rw [hH]; exact hP
  have hS : va_S A s.heap H locs := by rw [hH, hlocs]; exact hS
  refine kx_gen hH hlocs ?_
  clear hH hlocs
  refine kx_nameQ (fun Q hQ => ?_)
  refine lv_aload_n hx hb dd_It_isBoxOrCut_0 rfl (lv_at hl 0 rfl) ?_
  refine lv_iload_n hx hb dd_It_isBoxOrCut_1 rfl (lv_at hl 1 rfl) ?_
  refine lv_iconst (v := nI 0) hx hb dd_It_isBoxOrCut_2 (by decide) ?_
  refine kx_calli (wr := []) (va_runV (C := rr_It) (As := [.int (nI i), .int (nI 0)]) (rest := []) ⟨hx, hb, hml, hown, hts⟩ (ct_It_isKind l D cI cJ cZ H.size t cn i1 i2 i3 i4 i5 i6 i7 i8 i9 ln ik i (nI 0) (by omega) (by omega) (by omega)) ⟨(callB_of 2 hts (kx_good kw_599) rfl rfl rfl (hts _ (kx_m kw_47)) (hts _ (kx_m kw_596)) (by decide +kernel) ⟨Nat.le_of_ble_eq_true rfl, Nat.le_of_ble_eq_true rfl⟩), (hts _ (kx_m kw_597)), (hts _ (kx_m kw_598))⟩ (kx_preV (ci := 4) (q0 := 0) hK hN (hP.sub [0, 1] kt_2_0_1) (hD.sub [0, 1] (by decide) ks_2_0_1) rfl kg_2_0) rfl rfl hl.1 rfl (lv_room (Nat.le_of_ble_eq_true rfl)) dd_It_isBoxOrCut_3 ⟨Nat.le_of_ble_eq_true rfl, Nat.le_of_ble_eq_true rfl⟩) hP hD hS hA [0, 1] [] ks_2_0_1 ks_2_ (by decide) (by decide) (fun r3 u3 H locs hw3 hP hD hS => ?_)
  have hP : va_P D vwCl [(t, .inr (4, [.int (nI cn), .ref i1, .ref i2, .ref i3, .ref i4, .ref i5, .ref i6, .ref i7, .ref i8, .ref i9])), (i1, .inl (cI, ln, .inl ik))] H := hP
  have hD : va_D A [(t, .inr (4, [.int (nI cn), .ref i1, .ref i2, .ref i3, .ref i4, .ref i5, .ref i6, .ref i7, .ref i8, .ref i9])), (i1, .inl (cI, ln, .inl ik))] := hD
  have hw3 : r3 = kb_p (i < cn ∧ ik i = (nI 0)) := hw3
  subst hw3
  refine lv_if_ne (tgt := 18) hx hb dd_It_isBoxOrCut_6 (by decide) (fun c6 => ?_) (fun c6 => ?_)
  · skip
    have c6 : i < cn ∧ ik i = (nI 0) := kb_1.mp c6
    refine lv_iconst (v := nI 1) hx hb dd_It_isBoxOrCut_18 (by decide) ?_
    refine lv_goto (tgt := 23) hx hb dd_It_isBoxOrCut_19 (by decide) ?_
    rw [hQ]
    exact kx_zret hx hb hr hlocks hK hN hS dd_It_isBoxOrCut_23 (by decide) () hP hD (by first | exact kb_t (Or.inl c6) | exact kb_t (Or.inr c15) | exact kb_f (fun q => q.elim c6 c15))
  · skip
    have c6 : ¬ (i < cn ∧ ik i = (nI 0)) := kb_0.mp c6
    refine lv_aload_n hx hb dd_It_isBoxOrCut_9 rfl (lv_at hl 0 rfl) ?_
    refine lv_iload_n hx hb dd_It_isBoxOrCut_10 rfl (lv_at hl 1 rfl) ?_
    refine lv_iconst (v := nI 4) hx hb dd_It_isBoxOrCut_11 (by decide) ?_
    refine kx_calli (wr := []) (va_runV (C := rr_It) (As := [.int (nI i), .int (nI 4)]) (rest := []) ⟨hx, hb, hml, hown, hts⟩ (ct_It_isKind l D cI cJ cZ H.size t cn i1 i2 i3 i4 i5 i6 i7 i8 i9 ln ik i (nI 4) (by omega) (by omega) (by omega)) ⟨(callB_of 2 hts (kx_good kw_599) rfl rfl rfl (hts _ (kx_m kw_47)) (hts _ (kx_m kw_596)) (by decide +kernel) ⟨Nat.le_of_ble_eq_true rfl, Nat.le_of_ble_eq_true rfl⟩), (hts _ (kx_m kw_597)), (hts _ (kx_m kw_598))⟩ (kx_preV (ci := 4) (q0 := 0) hK hN (hP.sub [0, 1] kt_2_0_1) (hD.sub [0, 1] (by decide) ks_2_0_1) rfl kg_2_0) rfl rfl hl.1 rfl (lv_room (Nat.le_of_ble_eq_true rfl)) dd_It_isBoxOrCut_12 ⟨Nat.le_of_ble_eq_true rfl, Nat.le_of_ble_eq_true rfl⟩) hP hD hS hA [0, 1] [] ks_2_0_1 ks_2_ (by decide) (by decide) (fun r12 u12 H locs hw12 hP hD hS => ?_)
    have hP : va_P D vwCl [(t, .inr (4, [.int (nI cn), .ref i1, .ref i2, .ref i3, .ref i4, .ref i5, .ref i6, .ref i7, .ref i8, .ref i9])), (i1, .inl (cI, ln, .inl ik))] H := hP
    have hD : va_D A [(t, .inr (4, [.int (nI cn), .ref i1, .ref i2, .ref i3, .ref i4, .ref i5, .ref i6, .ref i7, .ref i8, .ref i9])), (i1, .inl (cI, ln, .inl ik))] := hD
    have hw12 : r12 = kb_p (i < cn ∧ ik i = (nI 4)) := hw12
    subst hw12
    refine lv_if_eq (tgt := 22) hx hb dd_It_isBoxOrCut_15 (by decide) (fun c15 => ?_) (fun c15 => ?_)
    · skip
      have c15 : ¬ (i < cn ∧ ik i = (nI 4)) := kb_0.mp c15
      refine lv_iconst (v := nI 0) hx hb dd_It_isBoxOrCut_22 (by decide) ?_
      rw [hQ]
      exact kx_zret hx hb hr hlocks hK hN hS dd_It_isBoxOrCut_23 (by decide) () hP hD (by first | exact kb_t (Or.inl c6) | exact kb_t (Or.inr c15) | exact kb_f (fun q => q.elim c6 c15))
    · skip
      have c15 : i < cn ∧ ik i = (nI 4) := kb_1.mp c15
      refine lv_iconst (v := nI 1) hx hb dd_It_isBoxOrCut_18 (by decide) ?_
      refine lv_goto (tgt := 23) hx hb dd_It_isBoxOrCut_19 (by decide) ?_
      rw [hQ]
      exact kx_zret hx hb hr hlocks hK hN hS dd_It_isBoxOrCut_23 (by decide) () hP hD (by first | exact kb_t (Or.inl c6) | exact kb_t (Or.inr c15) | exact kb_f (fun q => q.elim c6 c15))


set_option maxHeartbeats 4000000 in
set_option maxRecDepth 100000 in
theorem ct_It_isBoxOrCut_p (l : Launch) (D : va_G) (cI cJ cZ : ClassId) (sz : Nat) (t : Nat) (cn : Nat) (i1 : Nat) (i2 : Nat) (i3 : Nat) (i4 : Nat) (i5 : Nat) (i6 : Nat) (i7 : Nat) (i8 : Nat) (i9 : Nat) (ln : Nat) (ik : Nat → Int32) (i : Nat) (hi : i < 2 ^ 30) (hc : cn ≤ ln) (hln : ln < 2 ^ 30) : kx_Mi l yy_It_isBoxOrCut ww_It_isBoxOrCut ({ frames := 1, cells := 0, slots := 0, locals := 22 }) D vwCl (kx_ty cI cJ cZ) [.ref t, .int (kp_ i)] [(t, .inr (4, [.int (nI cn), .ref i1, .ref i2, .ref i3, .ref i4, .ref i5, .ref i6, .ref i7, .ref i8, .ref i9])), (i1, .inl (cI, ln, .inl ik))] sz (fun (r : Int32) (u : Unit) => r = kb_p ((1 ≤ i ∧ i - 1 < cn ∧ ik (i - 1) = nI 0) ∨ (1 ≤ i ∧ i - 1 < cn ∧ ik (i - 1) = nI 4))) (fun (u : Unit) => [(t, .inr (4, [.int (nI cn), .ref i1, .ref i2, .ref i3, .ref i4, .ref i5, .ref i6, .ref i7, .ref i8, .ref i9])), (i1, .inl (cI, ln, .inl ik))]) 0 0 := by
  refine kx_starti (by decide) rfl (Nat.le_of_ble_eq_true rfl) ?_
  intro p e s m below meth c A ls hx hb hr hml hts hown hlocks hin hP hK hN hD hA hS hl
  have hl : lv_has ls 2 [(0, .ref t), (1, .int (kp_ i))] := hl
  have hown : s.vm.findClass rr_It = some m.cls := hown
  obtain ⟨H, hH⟩ : ∃ H, H = s.heap := ⟨_, rfl⟩
  obtain ⟨locs, hlocs⟩ : ∃ z : List Loc, z = [] := ⟨_, rfl⟩
  have hP : va_P D vwCl [(t, .inr (4, [.int (nI cn), .ref i1, .ref i2, .ref i3, .ref i4, .ref i5, .ref i6, .ref i7, .ref i8, .ref i9])), (i1, .inl (cI, ln, .inl ik))] H := by rw [hH]; exact hP
  have hS : va_S A s.heap H locs := by rw [hH, hlocs]; exact hS
  refine kx_gen hH hlocs ?_
  clear hH hlocs
  refine kx_nameQ (fun Q hQ => ?_)
  refine lv_aload_n hx hb dd_It_isBoxOrCut_0 rfl (lv_at hl 0 rfl) ?_
  refine lv_iload_n hx hb dd_It_isBoxOrCut_1 rfl (lv_at hl 1 rfl) ?_
  refine lv_iconst (v := nI 0) hx hb dd_It_isBoxOrCut_2 (by decide) ?_
  refine kx_calli (wr := []) (va_runV (C := rr_It) (As := [.int (kp_ i), .int (nI 0)]) (rest := []) ⟨hx, hb, hml, hown, hts⟩ (ct_It_isKind_p l D cI cJ cZ H.size t cn i1 i2 i3 i4 i5 i6 i7 i8 i9 ln ik i (nI 0) (by omega) (by omega) (by omega)) ⟨(callB_of 2 hts (kx_good kw_599) rfl rfl rfl (hts _ (kx_m kw_47)) (hts _ (kx_m kw_596)) (by decide +kernel) ⟨Nat.le_of_ble_eq_true rfl, Nat.le_of_ble_eq_true rfl⟩), (hts _ (kx_m kw_597)), (hts _ (kx_m kw_598))⟩ (kx_preV (ci := 4) (q0 := 0) hK hN (hP.sub [0, 1] kt_2_0_1) (hD.sub [0, 1] (by decide) ks_2_0_1) rfl kg_2_0) rfl rfl hl.1 rfl (lv_room (Nat.le_of_ble_eq_true rfl)) dd_It_isBoxOrCut_3 ⟨Nat.le_of_ble_eq_true rfl, Nat.le_of_ble_eq_true rfl⟩) hP hD hS hA [0, 1] [] ks_2_0_1 ks_2_ (by decide) (by decide) (fun r3 u3 H locs hw3 hP hD hS => ?_)
  have hP : va_P D vwCl [(t, .inr (4, [.int (nI cn), .ref i1, .ref i2, .ref i3, .ref i4, .ref i5, .ref i6, .ref i7, .ref i8, .ref i9])), (i1, .inl (cI, ln, .inl ik))] H := hP
  have hD : va_D A [(t, .inr (4, [.int (nI cn), .ref i1, .ref i2, .ref i3, .ref i4, .ref i5, .ref i6, .ref i7, .ref i8, .ref i9])), (i1, .inl (cI, ln, .inl ik))] := hD
  have hw3 : r3 = kb_p (1 ≤ i ∧ i - 1 < cn ∧ ik (i - 1) = (nI 0)) := hw3
  subst hw3
  refine lv_if_ne (tgt := 18) hx hb dd_It_isBoxOrCut_6 (by decide) (fun c6 => ?_) (fun c6 => ?_)
  · skip
    have c6 : 1 ≤ i ∧ i - 1 < cn ∧ ik (i - 1) = (nI 0) := kb_1.mp c6
    refine lv_iconst (v := nI 1) hx hb dd_It_isBoxOrCut_18 (by decide) ?_
    refine lv_goto (tgt := 23) hx hb dd_It_isBoxOrCut_19 (by decide) ?_
    rw [hQ]
    exact kx_zret hx hb hr hlocks hK hN hS dd_It_isBoxOrCut_23 (by decide) () hP hD (by first | exact kb_t (Or.inl c6) | exact kb_t (Or.inr c15) | exact kb_f (fun q => q.elim c6 c15))
  · skip
    have c6 : ¬ (1 ≤ i ∧ i - 1 < cn ∧ ik (i - 1) = (nI 0)) := kb_0.mp c6
    refine lv_aload_n hx hb dd_It_isBoxOrCut_9 rfl (lv_at hl 0 rfl) ?_
    refine lv_iload_n hx hb dd_It_isBoxOrCut_10 rfl (lv_at hl 1 rfl) ?_
    refine lv_iconst (v := nI 4) hx hb dd_It_isBoxOrCut_11 (by decide) ?_
    refine kx_calli (wr := []) (va_runV (C := rr_It) (As := [.int (kp_ i), .int (nI 4)]) (rest := []) ⟨hx, hb, hml, hown, hts⟩ (ct_It_isKind_p l D cI cJ cZ H.size t cn i1 i2 i3 i4 i5 i6 i7 i8 i9 ln ik i (nI 4) (by omega) (by omega) (by omega)) ⟨(callB_of 2 hts (kx_good kw_599) rfl rfl rfl (hts _ (kx_m kw_47)) (hts _ (kx_m kw_596)) (by decide +kernel) ⟨Nat.le_of_ble_eq_true rfl, Nat.le_of_ble_eq_true rfl⟩), (hts _ (kx_m kw_597)), (hts _ (kx_m kw_598))⟩ (kx_preV (ci := 4) (q0 := 0) hK hN (hP.sub [0, 1] kt_2_0_1) (hD.sub [0, 1] (by decide) ks_2_0_1) rfl kg_2_0) rfl rfl hl.1 rfl (lv_room (Nat.le_of_ble_eq_true rfl)) dd_It_isBoxOrCut_12 ⟨Nat.le_of_ble_eq_true rfl, Nat.le_of_ble_eq_true rfl⟩) hP hD hS hA [0, 1] [] ks_2_0_1 ks_2_ (by decide) (by decide) (fun r12 u12 H locs hw12 hP hD hS => ?_)
    have hP : va_P D vwCl [(t, .inr (4, [.int (nI cn), .ref i1, .ref i2, .ref i3, .ref i4, .ref i5, .ref i6, .ref i7, .ref i8, .ref i9])), (i1, .inl (cI, ln, .inl ik))] H := hP
    have hD : va_D A [(t, .inr (4, [.int (nI cn), .ref i1, .ref i2, .ref i3, .ref i4, .ref i5, .ref i6, .ref i7, .ref i8, .ref i9])), (i1, .inl (cI, ln, .inl ik))] := hD
    have hw12 : r12 = kb_p (1 ≤ i ∧ i - 1 < cn ∧ ik (i - 1) = (nI 4)) := hw12
    subst hw12
    refine lv_if_eq (tgt := 22) hx hb dd_It_isBoxOrCut_15 (by decide) (fun c15 => ?_) (fun c15 => ?_)
    · skip
      have c15 : ¬ (1 ≤ i ∧ i - 1 < cn ∧ ik (i - 1) = (nI 4)) := kb_0.mp c15
      refine lv_iconst (v := nI 0) hx hb dd_It_isBoxOrCut_22 (by decide) ?_
      rw [hQ]
      exact kx_zret hx hb hr hlocks hK hN hS dd_It_isBoxOrCut_23 (by decide) () hP hD (by first | exact kb_t (Or.inl c6) | exact kb_t (Or.inr c15) | exact kb_f (fun q => q.elim c6 c15))
    · skip
      have c15 : 1 ≤ i ∧ i - 1 < cn ∧ ik (i - 1) = (nI 4) := kb_1.mp c15
      refine lv_iconst (v := nI 1) hx hb dd_It_isBoxOrCut_18 (by decide) ?_
      refine lv_goto (tgt := 23) hx hb dd_It_isBoxOrCut_19 (by decide) ?_
      rw [hQ]
      exact kx_zret hx hb hr hlocks hK hN hS dd_It_isBoxOrCut_23 (by decide) () hP hD (by first | exact kb_t (Or.inl c6) | exact kb_t (Or.inr c15) | exact kb_f (fun q => q.elim c6 c15))

theorem dd_It_hasFlag_0 : decode bb_It_hasFlag 0 = .ok (.aload_n 0, 1) := by decide +kernel
theorem dd_It_hasFlag_1 : decode bb_It_hasFlag 1 = .ok (.iload_n 1, 1) := by decide +kernel
theorem dd_It_hasFlag_2 : decode bb_It_hasFlag 2 = .ok (.iconst 4, 1) := by decide +kernel
theorem dd_It_hasFlag_3 : decode bb_It_hasFlag 3 = .ok (.invokevirtual 61, 3) := by decide +kernel
theorem dd_It_hasFlag_6 : decode bb_It_hasFlag 6 = .ok (.ifCond .eq (18), 3) := by decide +kernel
theorem dd_It_hasFlag_9 : decode bb_It_hasFlag 9 = .ok (.aload_n 0, 1) := by decide +kernel
theorem dd_It_hasFlag_10 : decode bb_It_hasFlag 10 = .ok (.getfield 24, 3) := by decide +kernel
theorem dd_It_hasFlag_13 : decode bb_It_hasFlag 13 = .ok (.iload_n 1, 1) := by decide +kernel
theorem dd_It_hasFlag_14 : decode bb_It_hasFlag 14 = .ok (.iaload, 1) := by decide +kernel
theorem dd_It_hasFlag_15 : decode bb_It_hasFlag 15 = .ok (.iload_n 2, 1) := by decide +kernel
theorem dd_It_hasFlag_16 : decode bb_It_hasFlag 16 = .ok (.iand, 1) := by decide +kernel
theorem dd_It_hasFlag_17 : decode bb_It_hasFlag 17 = .ok (.ifCond .eq (7), 3) := by decide +kernel
theorem dd_It_hasFlag_20 : decode bb_It_hasFlag 20 = .ok (.iconst 1, 1) := by decide +kernel
theorem dd_It_hasFlag_21 : decode bb_It_hasFlag 21 = .ok (.goto (4), 3) := by decide +kernel
theorem dd_It_hasFlag_24 : decode bb_It_hasFlag 24 = .ok (.iconst 0, 1) := by decide +kernel
theorem dd_It_hasFlag_25 : decode bb_It_hasFlag 25 = .ok (.ireturn, 1) := by decide +kernel

set_option maxHeartbeats 4000000 in
set_option maxRecDepth 100000 in
theorem ct_It_hasFlag (l : Launch) (D : va_G) (cI cJ cZ : ClassId) (sz : Nat) (t : Nat) (cn : Nat) (i1 : Nat) (i2 : Nat) (i3 : Nat) (i4 : Nat) (i5 : Nat) (i6 : Nat) (i7 : Nat) (i8 : Nat) (i9 : Nat) (ln : Nat) (ik : Nat → Int32) (if_ : Nat → Int32) (i : Nat) (fg : Int32) (hi : i < 2 ^ 30) (hc : cn ≤ ln) (hln : ln < 2 ^ 30) : kx_Mi l yy_It_hasFlag ww_It_hasFlag ({ frames := 1, cells := 0, slots := 0, locals := 22 }) D vwCl (kx_ty cI cJ cZ) [.ref t, .int (nI i), .int fg] [(t, .inr (4, [.int (nI cn), .ref i1, .ref i2, .ref i3, .ref i4, .ref i5, .ref i6, .ref i7, .ref i8, .ref i9])), (i1, .inl (cI, ln, .inl ik)), (i5, .inl (cI, ln, .inl if_))] sz (fun (r : Int32) (u : Unit) => r = kb_p (pk_fl ik if_ cn i fg)) (fun (u : Unit) => [(t, .inr (4, [.int (nI cn), .ref i1, .ref i2, .ref i3, .ref i4, .ref i5, .ref i6, .ref i7, .ref i8, .ref i9])), (i1, .inl (cI, ln, .inl ik)), (i5, .inl (cI, ln, .inl if_))]) 0 0 := by
  refine kx_starti (by decide) rfl (Nat.le_of_ble_eq_true rfl) ?_
  intro p e s m below meth c A ls hx hb hr hml hts hown hlocks hin hP hK hN hD hA hS hl
  have hl : lv_has ls 3 [(0, .ref t), (1, .int (nI i)), (2, .int fg)] := hl
  have hown : s.vm.findClass rr_It = some m.cls := hown
  have lk0 := hts _ (kx_m kw_141)
  have hin4 : ∀ w ∈ u_ws rr_It tt_It 10, w ∈ ww_It_hasFlag := fun w h => kx_m (kf_It w h)
  obtain ⟨H, hH⟩ : ∃ H, H = s.heap := ⟨_, rfl⟩
  obtain ⟨locs, hlocs⟩ : ∃ z : List Loc, z = [] := ⟨_, rfl⟩
  have hP : va_P D vwCl [(t, .inr (4, [.int (nI cn), .ref i1, .ref i2, .ref i3, .ref i4, .ref i5, .ref i6, .ref i7, .ref i8, .ref i9])), (i1, .inl (cI, ln, .inl ik)), (i5, .inl (cI, ln, .inl if_))] H := by rw [hH]; exact hP
  have hS : va_S A s.heap H locs := by rw [hH, hlocs]; exact hS
  refine kx_gen hH hlocs ?_
  clear hH hlocs
  refine kx_nameQ (fun Q hQ => ?_)
  refine lv_aload_n hx hb dd_It_hasFlag_0 rfl (lv_at hl 0 rfl) ?_
  refine lv_iload_n hx hb dd_It_hasFlag_1 rfl (lv_at hl 1 rfl) ?_
  refine lv_iconst (v := nI 4) hx hb dd_It_hasFlag_2 (by decide) ?_
  refine kx_calli (wr := [(i5, .inl (cI, ln, .inl if_))]) (va_runV (C := rr_It) (As := [.int (nI i), .int (nI 4)]) (rest := []) ⟨hx, hb, hml, hown, hts⟩ (ct_It_isKind l D cI cJ cZ H.size t cn i1 i2 i3 i4 i5 i6 i7 i8 i9 ln ik i (nI 4) (by omega) (by omega) (by omega)) ⟨(callB_of 2 hts (kx_good kw_599) rfl rfl rfl (hts _ (kx_m kw_47)) (hts _ (kx_m kw_596)) (by decide +kernel) ⟨Nat.le_of_ble_eq_true rfl, Nat.le_of_ble_eq_true rfl⟩), (hts _ (kx_m kw_597)), (hts _ (kx_m kw_598))⟩ (kx_preV (ci := 4) (q0 := 0) hK hN (hP.sub [0, 1] kt_3_0_1) (hD.sub [0, 1] (by decide) ks_3_0_1) rfl kg_2_0) rfl rfl hl.1 rfl (lv_room (Nat.le_of_ble_eq_true rfl)) dd_It_hasFlag_3 ⟨Nat.le_of_ble_eq_true rfl, Nat.le_of_ble_eq_true rfl⟩) hP hD hS hA [0, 1] [2] ks_3_0_1 ks_3_2 (by decide) (by decide) (fun r3 u3 H locs hw3 hP hD hS => ?_)
  have hP : va_P D vwCl [(i5, .inl (cI, ln, .inl if_)), (t, .inr (4, [.int (nI cn), .ref i1, .ref i2, .ref i3, .ref i4, .ref i5, .ref i6, .ref i7, .ref i8, .ref i9])), (i1, .inl (cI, ln, .inl ik))] H := hP
  have hD : va_D A [(i5, .inl (cI, ln, .inl if_)), (t, .inr (4, [.int (nI cn), .ref i1, .ref i2, .ref i3, .ref i4, .ref i5, .ref i6, .ref i7, .ref i8, .ref i9])), (i1, .inl (cI, ln, .inl ik))] := hD
  have hP : va_P D vwCl [(t, .inr (4, [.int (nI cn), .ref i1, .ref i2, .ref i3, .ref i4, .ref i5, .ref i6, .ref i7, .ref i8, .ref i9])), (i1, .inl (cI, ln, .inl ik)), (i5, .inl (cI, ln, .inl if_))] H := hP.sub [1, 2, 0] kt_3_1_2_0
  have hD : va_D A [(t, .inr (4, [.int (nI cn), .ref i1, .ref i2, .ref i3, .ref i4, .ref i5, .ref i6, .ref i7, .ref i8, .ref i9])), (i1, .inl (cI, ln, .inl ik)), (i5, .inl (cI, ln, .inl if_))] := hD.sub [1, 2, 0] (by decide) ks_3_1_2_0
  have hw3 : r3 = kb_p (i < cn ∧ ik i = (nI 4)) := hw3
  subst hw3
  refine lv_if_eq (tgt := 24) hx hb dd_It_hasFlag_6 (by decide) (fun c6 => ?_) (fun c6 => ?_)
  · skip
    have c6 : ¬ (i < cn ∧ ik i = (nI 4)) := kb_0.mp c6
    refine lv_iconst (v := nI 0) hx hb dd_It_hasFlag_24 (by decide) ?_
    rw [hQ]
    exact kx_zret hx hb hr hlocks hK hN hS dd_It_hasFlag_25 (by decide) () hP hD (by first | exact kb_t ⟨c6, c17⟩ | exact kb_f (fun q => c6 q.1) | exact kb_f (fun q => q.2 c17))
  · skip
    have c6 : i < cn ∧ ik i = (nI 4) := kb_1.mp c6
    refine lv_aload_n hx hb dd_It_hasFlag_9 rfl (lv_at hl 0 rfl) ?_
    refine va_get (D := D) (ci := 4) (v := .ref i5) (C := rr_It) (T := tt_It) (N := 10) hx hb hts hin4 hown hK hP 0 kg_3_0 rfl 5 (by decide) lk0 (fun _ h9 => h9) rfl dd_It_hasFlag_10 ?_
    refine lv_iload_n hx hb dd_It_hasFlag_13 rfl (lv_at hl 1 rfl) ?_
    refine kx_iald (q0 := 2) (t0 := 0) hx hb dd_It_hasFlag_14 hK hP kg_3_2 rfl (by omega) (by omega) ?_
    refine lv_iload_n hx hb dd_It_hasFlag_15 rfl (lv_at hl 2 rfl) ?_
    refine lv_iand hx hb dd_It_hasFlag_16 ?_
    refine lv_if_eq (tgt := 24) hx hb dd_It_hasFlag_17 (by decide) (fun c17 => ?_) (fun c17 => ?_)
    · skip
      refine lv_iconst (v := nI 0) hx hb dd_It_hasFlag_24 (by decide) ?_
      rw [hQ]
      exact kx_zret hx hb hr hlocks hK hN hS dd_It_hasFlag_25 (by decide) () hP hD (by first | exact kb_t ⟨c6, c17⟩ | exact kb_f (fun q => c6 q.1) | exact kb_f (fun q => q.2 c17))
    · skip
      refine lv_iconst (v := nI 1) hx hb dd_It_hasFlag_20 (by decide) ?_
      refine lv_goto (tgt := 25) hx hb dd_It_hasFlag_21 (by decide) ?_
      rw [hQ]
      exact kx_zret hx hb hr hlocks hK hN hS dd_It_hasFlag_25 (by decide) () hP hD (by first | exact kb_t ⟨c6, c17⟩ | exact kb_f (fun q => c6 q.1) | exact kb_f (fun q => q.2 c17))

theorem dd_It_mayBreakAt_0 : decode bb_It_mayBreakAt 0 = .ok (.iload_n 1, 1) := by decide +kernel
theorem dd_It_mayBreakAt_1 : decode bb_It_mayBreakAt 1 = .ok (.ifCond .lt (11), 3) := by decide +kernel
theorem dd_It_mayBreakAt_4 : decode bb_It_mayBreakAt 4 = .ok (.iload_n 1, 1) := by decide +kernel
theorem dd_It_mayBreakAt_5 : decode bb_It_mayBreakAt 5 = .ok (.aload_n 0, 1) := by decide +kernel
theorem dd_It_mayBreakAt_6 : decode bb_It_mayBreakAt 6 = .ok (.getfield 40, 3) := by decide +kernel
theorem dd_It_mayBreakAt_9 : decode bb_It_mayBreakAt 9 = .ok (.if_icmp .lt (5), 3) := by decide +kernel
theorem dd_It_mayBreakAt_12 : decode bb_It_mayBreakAt 12 = .ok (.iconst 0, 1) := by decide +kernel
theorem dd_It_mayBreakAt_13 : decode bb_It_mayBreakAt 13 = .ok (.ireturn, 1) := by decide +kernel
theorem dd_It_mayBreakAt_14 : decode bb_It_mayBreakAt 14 = .ok (.aload_n 0, 1) := by decide +kernel
theorem dd_It_mayBreakAt_15 : decode bb_It_mayBreakAt 15 = .ok (.getfield 9, 3) := by decide +kernel
theorem dd_It_mayBreakAt_18 : decode bb_It_mayBreakAt 18 = .ok (.iload_n 1, 1) := by decide +kernel
theorem dd_It_mayBreakAt_19 : decode bb_It_mayBreakAt 19 = .ok (.iaload, 1) := by decide +kernel
theorem dd_It_mayBreakAt_20 : decode bb_It_mayBreakAt 20 = .ok (.tableswitch (86) (1) (4) #[32, 40, 49, 67], 32) := by decide +kernel
theorem dd_It_mayBreakAt_52 : decode bb_It_mayBreakAt 52 = .ok (.aload_n 0, 1) := by decide +kernel
theorem dd_It_mayBreakAt_53 : decode bb_It_mayBreakAt 53 = .ok (.iload_n 1, 1) := by decide +kernel
theorem dd_It_mayBreakAt_54 : decode bb_It_mayBreakAt 54 = .ok (.iconst 1, 1) := by decide +kernel
theorem dd_It_mayBreakAt_55 : decode bb_It_mayBreakAt 55 = .ok (.isub, 1) := by decide +kernel
theorem dd_It_mayBreakAt_56 : decode bb_It_mayBreakAt 56 = .ok (.invokevirtual 65, 3) := by decide +kernel
theorem dd_It_mayBreakAt_59 : decode bb_It_mayBreakAt 59 = .ok (.ireturn, 1) := by decide +kernel
theorem dd_It_mayBreakAt_60 : decode bb_It_mayBreakAt 60 = .ok (.aload_n 0, 1) := by decide +kernel
theorem dd_It_mayBreakAt_61 : decode bb_It_mayBreakAt 61 = .ok (.iload_n 1, 1) := by decide +kernel
theorem dd_It_mayBreakAt_62 : decode bb_It_mayBreakAt 62 = .ok (.iconst 1, 1) := by decide +kernel
theorem dd_It_mayBreakAt_63 : decode bb_It_mayBreakAt 63 = .ok (.iadd, 1) := by decide +kernel
theorem dd_It_mayBreakAt_64 : decode bb_It_mayBreakAt 64 = .ok (.iconst 1, 1) := by decide +kernel
theorem dd_It_mayBreakAt_65 : decode bb_It_mayBreakAt 65 = .ok (.invokevirtual 61, 3) := by decide +kernel
theorem dd_It_mayBreakAt_68 : decode bb_It_mayBreakAt 68 = .ok (.ireturn, 1) := by decide +kernel
theorem dd_It_mayBreakAt_69 : decode bb_It_mayBreakAt 69 = .ok (.aload_n 0, 1) := by decide +kernel
theorem dd_It_mayBreakAt_70 : decode bb_It_mayBreakAt 70 = .ok (.getfield 15, 3) := by decide +kernel
theorem dd_It_mayBreakAt_73 : decode bb_It_mayBreakAt 73 = .ok (.iload_n 1, 1) := by decide +kernel
theorem dd_It_mayBreakAt_74 : decode bb_It_mayBreakAt 74 = .ok (.iaload, 1) := by decide +kernel
theorem dd_It_mayBreakAt_75 : decode bb_It_mayBreakAt 75 = .ok (.sipush (10000), 3) := by decide +kernel
theorem dd_It_mayBreakAt_78 : decode bb_It_mayBreakAt 78 = .ok (.if_icmp .ge (7), 3) := by decide +kernel
theorem dd_It_mayBreakAt_81 : decode bb_It_mayBreakAt 81 = .ok (.iconst 1, 1) := by decide +kernel
theorem dd_It_mayBreakAt_82 : decode bb_It_mayBreakAt 82 = .ok (.goto (4), 3) := by decide +kernel
theorem dd_It_mayBreakAt_85 : decode bb_It_mayBreakAt 85 = .ok (.iconst 0, 1) := by decide +kernel
theorem dd_It_mayBreakAt_86 : decode bb_It_mayBreakAt 86 = .ok (.ireturn, 1) := by decide +kernel
theorem dd_It_mayBreakAt_87 : decode bb_It_mayBreakAt 87 = .ok (.iload_n 2, 1) := by decide +kernel
theorem dd_It_mayBreakAt_88 : decode bb_It_mayBreakAt 88 = .ok (.ifCond .ne (12), 3) := by decide +kernel
theorem dd_It_mayBreakAt_91 : decode bb_It_mayBreakAt 91 = .ok (.aload_n 0, 1) := by decide +kernel
theorem dd_It_mayBreakAt_92 : decode bb_It_mayBreakAt 92 = .ok (.iload_n 1, 1) := by decide +kernel
theorem dd_It_mayBreakAt_93 : decode bb_It_mayBreakAt 93 = .ok (.iconst 4, 1) := by decide +kernel
theorem dd_It_mayBreakAt_94 : decode bb_It_mayBreakAt 94 = .ok (.invokevirtual 69, 3) := by decide +kernel
theorem dd_It_mayBreakAt_97 : decode bb_It_mayBreakAt 97 = .ok (.ifCond .ne (7), 3) := by decide +kernel
theorem dd_It_mayBreakAt_100 : decode bb_It_mayBreakAt 100 = .ok (.iconst 1, 1) := by decide +kernel
theorem dd_It_mayBreakAt_101 : decode bb_It_mayBreakAt 101 = .ok (.goto (4), 3) := by decide +kernel
theorem dd_It_mayBreakAt_104 : decode bb_It_mayBreakAt 104 = .ok (.iconst 0, 1) := by decide +kernel
theorem dd_It_mayBreakAt_105 : decode bb_It_mayBreakAt 105 = .ok (.ireturn, 1) := by decide +kernel
theorem dd_It_mayBreakAt_106 : decode bb_It_mayBreakAt 106 = .ok (.iconst 0, 1) := by decide +kernel
theorem dd_It_mayBreakAt_107 : decode bb_It_mayBreakAt 107 = .ok (.ireturn, 1) := by decide +kernel

set_option maxHeartbeats 4000000 in
set_option maxRecDepth 100000 in
theorem ct_It_mayBreakAt (l : Launch) (D : va_G) (cI cJ cZ : ClassId) (sz : Nat) (t : Nat) (cn : Nat) (i1 : Nat) (i2 : Nat) (i3 : Nat) (i4 : Nat) (i5 : Nat) (i6 : Nat) (i7 : Nat) (i8 : Nat) (i9 : Nat) (ln : Nat) (ik : Nat → Int32) (ic : Nat → Int32) (if_ : Nat → Int32) (i : Nat) (au : Int32) (hi : i < 2 ^ 30) (hc : cn ≤ ln) (hln : ln < 2 ^ 30) : kx_Mi l yy_It_mayBreakAt ww_It_mayBreakAt ({ frames := 2, cells := 0, slots := 0, locals := 44 }) D vwCl (kx_ty cI cJ cZ) [.ref t, .int (nI i), .int au] [(t, .inr (4, [.int (nI cn), .ref i1, .ref i2, .ref i3, .ref i4, .ref i5, .ref i6, .ref i7, .ref i8, .ref i9])), (i1, .inl (cI, ln, .inl ik)), (i2, .inl (cI, ln, .inl ic)), (i5, .inl (cI, ln, .inl if_))] sz (fun (r : Int32) (u : Unit) => r = kb_p (pk_br ik ic if_ cn au i)) (fun (u : Unit) => [(t, .inr (4, [.int (nI cn), .ref i1, .ref i2, .ref i3, .ref i4, .ref i5, .ref i6, .ref i7, .ref i8, .ref i9])), (i1, .inl (cI, ln, .inl ik)), (i2, .inl (cI, ln, .inl ic)), (i5, .inl (cI, ln, .inl if_))]) 0 0 := by
  refine kx_starti (by decide) rfl (Nat.le_of_ble_eq_true rfl) ?_
  intro p e s m below meth c A ls hx hb hr hml hts hown hlocks hin hP hK hN hD hA hS hl
  have hl : lv_has ls 3 [(0, .ref t), (1, .int (nI i)), (2, .int au)] := hl
  have hown : s.vm.findClass rr_It = some m.cls := hown
  have lk0 := hts _ (kx_m kw_131)
  have hin4 : ∀ w ∈ u_ws rr_It tt_It 10, w ∈ ww_It_mayBreakAt := fun w h => kx_m (kf_It w h)
  have lk2 := hts _ (kx_m kw_134)
  have lk3 := hts _ (kx_m kw_135)
  obtain ⟨H, hH⟩ : ∃ H, H = s.heap := ⟨_, rfl⟩
  obtain ⟨locs, hlocs⟩ : ∃ z : List Loc, z = [] := ⟨_, rfl⟩
  have hP : va_P D vwCl [(t, .inr (4, [.int (nI cn), .ref i1, .ref i2, .ref i3, .ref i4, .ref i5, .ref i6, .ref i7, .ref i8, .ref i9])), (i1, .inl (cI, ln, .inl ik)), (i2, .inl (cI, ln, .inl ic)), (i5, .inl (cI, ln, .inl if_))] H := by rw [hH]; exact hP
  have hS : va_S A s.heap H locs := by rw [hH, hlocs]; exact hS
  refine kx_gen hH hlocs ?_
  clear hH hlocs
  refine kx_nameQ (fun Q hQ => ?_)
  refine lv_iload_n hx hb dd_It_mayBreakAt_0 rfl (lv_at hl 1 rfl) ?_
  refine lv_if_lt (tgt := 12) hx hb dd_It_mayBreakAt_1 (by decide) (fun c1 => ?_) (fun c1 => ?_)
  · skip
    have c1 : i < 0 := (kn_lt0 (by omega)).mp c1
    exact absurd c1 (by omega)
  · skip
    have c1 : ¬ (i < 0) := fun h => c1 ((kn_lt0 (by omega)).mpr h)
    refine lv_iload_n hx hb dd_It_mayBreakAt_4 rfl (lv_at hl 1 rfl) ?_
    refine lv_aload_n hx hb dd_It_mayBreakAt_5 rfl (lv_at hl 0 rfl) ?_
    refine va_get (D := D) (ci := 4) (v := .int (nI cn)) (C := rr_It) (T := tt_It) (N := 10) hx hb hts hin4 hown hK hP 0 kg_4_0 rfl 0 (by decide) lk0 (fun _ h9 => h9) rfl dd_It_mayBreakAt_6 ?_
    refine lv_icmp_lt (tgt := 14) hx hb dd_It_mayBreakAt_9 (by decide) (fun c9 => ?_) (fun c9 => ?_)
    · skip
      have c9 : i < cn := (nI_ltI (by omega) (by omega)).mp c9
      refine lv_aload_n hx hb dd_It_mayBreakAt_14 rfl (lv_at hl 0 rfl) ?_
      refine va_get (D := D) (ci := 4) (v := .ref i1) (C := rr_It) (T := tt_It) (N := 10) hx hb hts hin4 hown hK hP 0 kg_4_0 rfl 1 (by decide) lk2 (fun _ h9 => h9) rfl dd_It_mayBreakAt_15 ?_
      refine lv_iload_n hx hb dd_It_mayBreakAt_18 rfl (lv_at hl 1 rfl) ?_
      refine kx_iald (q0 := 1) (t0 := 0) hx hb dd_It_mayBreakAt_19 hK hP kg_4_1 rfl (by omega) (by omega) ?_
      by_cases t20_1 : ik i = nI 1
      · skip
        refine kx_toN (n := 1) t20_1 ?_
        refine lv_tableIn (off := (32)) (tgt := 52) hx hb dd_It_mayBreakAt_20 (by decide +kernel) (by decide +kernel) (by decide +kernel) (by decide) ?_
        refine lv_aload_n hx hb dd_It_mayBreakAt_52 rfl (lv_at hl 0 rfl) ?_
        refine lv_iload_n hx hb dd_It_mayBreakAt_53 rfl (lv_at hl 1 rfl) ?_
        refine lv_iconst (v := nI 1) hx hb dd_It_mayBreakAt_54 (by decide) ?_
        refine lv_isub hx hb dd_It_mayBreakAt_55 ?_
        refine kx_calli (wr := [(i2, .inl (cI, ln, .inl ic)), (i5, .inl (cI, ln, .inl if_))]) (va_runV (C := rr_It) (As := [.int (kp_ i)]) (rest := []) ⟨hx, hb, hml, hown, hts⟩ (ct_It_isBoxOrCut_p l D cI cJ cZ H.size t cn i1 i2 i3 i4 i5 i6 i7 i8 i9 ln ik i (by omega) (by omega) (by omega)) ⟨(callB_of 1 hts (kx_good kw_595) rfl rfl rfl (hts _ (kx_m kw_47)) (hts _ (kx_m kw_592)) (by decide +kernel) ⟨Nat.le_of_ble_eq_true rfl, Nat.le_of_ble_eq_true rfl⟩), (hts _ (kx_m kw_593)), (hts _ (kx_m kw_594))⟩ (kx_preV (ci := 4) (q0 := 0) hK hN (hP.sub [0, 1] kt_4_0_1) (hD.sub [0, 1] (by decide) ks_4_0_1) rfl kg_2_0) rfl rfl hl.1 rfl (lv_room (Nat.le_of_ble_eq_true rfl)) dd_It_mayBreakAt_56 ⟨Nat.le_of_ble_eq_true rfl, Nat.le_of_ble_eq_true rfl⟩) hP hD hS hA [0, 1] [2, 3] ks_4_0_1 ks_4_2_3 (by decide) (by decide) (fun r56 u56 H locs hw56 hP hD hS => ?_)
        have hP : va_P D vwCl [(i2, .inl (cI, ln, .inl ic)), (i5, .inl (cI, ln, .inl if_)), (t, .inr (4, [.int (nI cn), .ref i1, .ref i2, .ref i3, .ref i4, .ref i5, .ref i6, .ref i7, .ref i8, .ref i9])), (i1, .inl (cI, ln, .inl ik))] H := hP
        have hD : va_D A [(i2, .inl (cI, ln, .inl ic)), (i5, .inl (cI, ln, .inl if_)), (t, .inr (4, [.int (nI cn), .ref i1, .ref i2, .ref i3, .ref i4, .ref i5, .ref i6, .ref i7, .ref i8, .ref i9])), (i1, .inl (cI, ln, .inl ik))] := hD
        have hP : va_P D vwCl [(t, .inr (4, [.int (nI cn), .ref i1, .ref i2, .ref i3, .ref i4, .ref i5, .ref i6, .ref i7, .ref i8, .ref i9])), (i1, .inl (cI, ln, .inl ik)), (i2, .inl (cI, ln, .inl ic)), (i5, .inl (cI, ln, .inl if_))] H := hP.sub [2, 3, 0, 1] kt_4_2_3_0_1
        have hD : va_D A [(t, .inr (4, [.int (nI cn), .ref i1, .ref i2, .ref i3, .ref i4, .ref i5, .ref i6, .ref i7, .ref i8, .ref i9])), (i1, .inl (cI, ln, .inl ik)), (i2, .inl (cI, ln, .inl ic)), (i5, .inl (cI, ln, .inl if_))] := hD.sub [2, 3, 0, 1] (by decide) ks_4_2_3_0_1
        have hw56 : r56 = kb_p ((1 ≤ i ∧ i - 1 < cn ∧ ik (i - 1) = nI 0) ∨ (1 ≤ i ∧ i - 1 < cn ∧ ik (i - 1) = nI 4)) := hw56
        subst hw56
        rw [hQ]
        exact kx_zret hx hb hr hlocks hK hN hS dd_It_mayBreakAt_59 kb_nar () hP hD (by refine kb_i ?_; unfold pk_br; rw [if_pos c9, if_pos t20_1])
      by_cases t20_2 : ik i = nI 2
      · skip
        refine kx_toN (n := 2) t20_2 ?_
        refine lv_tableIn (off := (40)) (tgt := 60) hx hb dd_It_mayBreakAt_20 (by decide +kernel) (by decide +kernel) (by decide +kernel) (by decide) ?_
        refine lv_aload_n hx hb dd_It_mayBreakAt_60 rfl (lv_at hl 0 rfl) ?_
        refine lv_iload_n hx hb dd_It_mayBreakAt_61 rfl (lv_at hl 1 rfl) ?_
        refine lv_iconst (v := nI 1) hx hb dd_It_mayBreakAt_62 (by decide) ?_
        refine kx_iadd hx hb dd_It_mayBreakAt_63 ?_
        refine lv_iconst (v := nI 1) hx hb dd_It_mayBreakAt_64 (by decide) ?_
        refine kx_calli (wr := [(i2, .inl (cI, ln, .inl ic)), (i5, .inl (cI, ln, .inl if_))]) (va_runV (C := rr_It) (As := [.int (nI (i + 1)), .int (nI 1)]) (rest := []) ⟨hx, hb, hml, hown, hts⟩ (ct_It_isKind l D cI cJ cZ H.size t cn i1 i2 i3 i4 i5 i6 i7 i8 i9 ln ik (i + 1) (nI 1) (by omega) (by omega) (by omega)) ⟨(callB_of 2 hts (kx_good kw_599) rfl rfl rfl (hts _ (kx_m kw_47)) (hts _ (kx_m kw_596)) (by decide +kernel) ⟨Nat.le_of_ble_eq_true rfl, Nat.le_of_ble_eq_true rfl⟩), (hts _ (kx_m kw_597)), (hts _ (kx_m kw_598))⟩ (kx_preV (ci := 4) (q0 := 0) hK hN (hP.sub [0, 1] kt_4_0_1) (hD.sub [0, 1] (by decide) ks_4_0_1) rfl kg_2_0) rfl rfl hl.1 rfl (lv_room (Nat.le_of_ble_eq_true rfl)) dd_It_mayBreakAt_65 ⟨Nat.le_of_ble_eq_true rfl, Nat.le_of_ble_eq_true rfl⟩) hP hD hS hA [0, 1] [2, 3] ks_4_0_1 ks_4_2_3 (by decide) (by decide) (fun r65 u65 H locs hw65 hP hD hS => ?_)
        have hP : va_P D vwCl [(i2, .inl (cI, ln, .inl ic)), (i5, .inl (cI, ln, .inl if_)), (t, .inr (4, [.int (nI cn), .ref i1, .ref i2, .ref i3, .ref i4, .ref i5, .ref i6, .ref i7, .ref i8, .ref i9])), (i1, .inl (cI, ln, .inl ik))] H := hP
        have hD : va_D A [(i2, .inl (cI, ln, .inl ic)), (i5, .inl (cI, ln, .inl if_)), (t, .inr (4, [.int (nI cn), .ref i1, .ref i2, .ref i3, .ref i4, .ref i5, .ref i6, .ref i7, .ref i8, .ref i9])), (i1, .inl (cI, ln, .inl ik))] := hD
        have hP : va_P D vwCl [(t, .inr (4, [.int (nI cn), .ref i1, .ref i2, .ref i3, .ref i4, .ref i5, .ref i6, .ref i7, .ref i8, .ref i9])), (i1, .inl (cI, ln, .inl ik)), (i2, .inl (cI, ln, .inl ic)), (i5, .inl (cI, ln, .inl if_))] H := hP.sub [2, 3, 0, 1] kt_4_2_3_0_1
        have hD : va_D A [(t, .inr (4, [.int (nI cn), .ref i1, .ref i2, .ref i3, .ref i4, .ref i5, .ref i6, .ref i7, .ref i8, .ref i9])), (i1, .inl (cI, ln, .inl ik)), (i2, .inl (cI, ln, .inl ic)), (i5, .inl (cI, ln, .inl if_))] := hD.sub [2, 3, 0, 1] (by decide) ks_4_2_3_0_1
        have hw65 : r65 = kb_p ((i + 1) < cn ∧ ik (i + 1) = (nI 1)) := hw65
        subst hw65
        rw [hQ]
        exact kx_zret hx hb hr hlocks hK hN hS dd_It_mayBreakAt_68 kb_nar () hP hD (by refine kb_i ?_; unfold pk_br; rw [if_pos c9, if_neg t20_1, if_pos t20_2])
      by_cases t20_3 : ik i = nI 3
      · skip
        refine kx_toN (n := 3) t20_3 ?_
        refine lv_tableIn (off := (49)) (tgt := 69) hx hb dd_It_mayBreakAt_20 (by decide +kernel) (by decide +kernel) (by decide +kernel) (by decide) ?_
        refine lv_aload_n hx hb dd_It_mayBreakAt_69 rfl (lv_at hl 0 rfl) ?_
        refine va_get (D := D) (ci := 4) (v := .ref i2) (C := rr_It) (T := tt_It) (N := 10) hx hb hts hin4 hown hK hP 0 kg_4_0 rfl 2 (by decide) lk3 (fun _ h9 => h9) rfl dd_It_mayBreakAt_70 ?_
        refine lv_iload_n hx hb dd_It_mayBreakAt_73 rfl (lv_at hl 1 rfl) ?_
        refine kx_iald (q0 := 2) (t0 := 0) hx hb dd_It_mayBreakAt_74 hK hP kg_4_2 rfl (by omega) (by omega) ?_
        refine lv_sipush (v := nI 10000) hx hb dd_It_mayBreakAt_75 (by decide) ?_
        refine lv_icmp_ge (tgt := 85) hx hb dd_It_mayBreakAt_78 (by decide) (fun c78 => ?_) (fun c78 => ?_)
        · skip
          refine lv_iconst (v := nI 0) hx hb dd_It_mayBreakAt_85 (by decide) ?_
          rw [hQ]
          exact kx_zret hx hb hr hlocks hK hN hS dd_It_mayBreakAt_86 (by decide) () hP hD (by first | (refine kb_t ?_; unfold pk_br; rw [if_pos c9, if_neg t20_1, if_neg t20_2, if_pos t20_3]; exact c78) | (refine kb_f ?_; unfold pk_br; rw [if_pos c9, if_neg t20_1, if_neg t20_2, if_pos t20_3]; exact fun q => q c78))
        · skip
          refine lv_iconst (v := nI 1) hx hb dd_It_mayBreakAt_81 (by decide) ?_
          refine lv_goto (tgt := 86) hx hb dd_It_mayBreakAt_82 (by decide) ?_
          rw [hQ]
          exact kx_zret hx hb hr hlocks hK hN hS dd_It_mayBreakAt_86 (by decide) () hP hD (by first | (refine kb_t ?_; unfold pk_br; rw [if_pos c9, if_neg t20_1, if_neg t20_2, if_pos t20_3]; exact c78) | (refine kb_f ?_; unfold pk_br; rw [if_pos c9, if_neg t20_1, if_neg t20_2, if_pos t20_3]; exact fun q => q c78))
      by_cases t20_4 : ik i = nI 4
      · skip
        refine kx_toN (n := 4) t20_4 ?_
        refine lv_tableIn (off := (67)) (tgt := 87) hx hb dd_It_mayBreakAt_20 (by decide +kernel) (by decide +kernel) (by decide +kernel) (by decide) ?_
        refine lv_iload_n hx hb dd_It_mayBreakAt_87 rfl (lv_at hl 2 rfl) ?_
        refine lv_if_ne (tgt := 100) hx hb dd_It_mayBreakAt_88 (by decide) (fun c88 => ?_) (fun c88 => ?_)
        · skip
          refine lv_iconst (v := nI 1) hx hb dd_It_mayBreakAt_100 (by decide) ?_
          refine lv_goto (tgt := 105) hx hb dd_It_mayBreakAt_101 (by decide) ?_
          rw [hQ]
          exact kx_zret hx hb hr hlocks hK hN hS dd_It_mayBreakAt_105 (by decide) () hP hD (by first | (refine kb_t ?_; unfold pk_br; rw [if_pos c9, if_neg t20_1, if_neg t20_2, if_neg t20_3, if_pos t20_4]; first | exact Or.inl c88 | exact Or.inr c97) | (refine kb_f ?_; unfold pk_br; rw [if_pos c9, if_neg t20_1, if_neg t20_2, if_neg t20_3, if_pos t20_4]; exact fun q => q.elim (fun z => z c88) (fun z => z c97)))
        · skip
          refine lv_aload_n hx hb dd_It_mayBreakAt_91 rfl (lv_at hl 0 rfl) ?_
          refine lv_iload_n hx hb dd_It_mayBreakAt_92 rfl (lv_at hl 1 rfl) ?_
          refine lv_iconst (v := nI 4) hx hb dd_It_mayBreakAt_93 (by decide) ?_
          refine kx_calli (wr := [(i2, .inl (cI, ln, .inl ic))]) (va_runV (C := rr_It) (As := [.int (nI i), .int (nI 4)]) (rest := []) ⟨hx, hb, hml, hown, hts⟩ (ct_It_hasFlag l D cI cJ cZ H.size t cn i1 i2 i3 i4 i5 i6 i7 i8 i9 ln ik if_ i (nI 4) (by omega) (by omega) (by omega)) ⟨(callB_of 2 hts (kx_good kw_603) rfl rfl rfl (hts _ (kx_m kw_47)) (hts _ (kx_m kw_600)) (by decide +kernel) ⟨Nat.le_of_ble_eq_true rfl, Nat.le_of_ble_eq_true rfl⟩), (hts _ (kx_m kw_601)), (hts _ (kx_m kw_602))⟩ (kx_preV (ci := 4) (q0 := 0) hK hN (hP.sub [0, 1, 3] kt_4_0_1_3) (hD.sub [0, 1, 3] (by decide) ks_4_0_1_3) rfl kg_3_0) rfl rfl hl.1 rfl (lv_room (Nat.le_of_ble_eq_true rfl)) dd_It_mayBreakAt_94 ⟨Nat.le_of_ble_eq_true rfl, Nat.le_of_ble_eq_true rfl⟩) hP hD hS hA [0, 1, 3] [2] ks_4_0_1_3 ks_4_2 (by decide) (by decide) (fun r94 u94 H locs hw94 hP hD hS => ?_)
          have hP : va_P D vwCl [(i2, .inl (cI, ln, .inl ic)), (t, .inr (4, [.int (nI cn), .ref i1, .ref i2, .ref i3, .ref i4, .ref i5, .ref i6, .ref i7, .ref i8, .ref i9])), (i1, .inl (cI, ln, .inl ik)), (i5, .inl (cI, ln, .inl if_))] H := hP
          have hD : va_D A [(i2, .inl (cI, ln, .inl ic)), (t, .inr (4, [.int (nI cn), .ref i1, .ref i2, .ref i3, .ref i4, .ref i5, .ref i6, .ref i7, .ref i8, .ref i9])), (i1, .inl (cI, ln, .inl ik)), (i5, .inl (cI, ln, .inl if_))] := hD
          have hP : va_P D vwCl [(t, .inr (4, [.int (nI cn), .ref i1, .ref i2, .ref i3, .ref i4, .ref i5, .ref i6, .ref i7, .ref i8, .ref i9])), (i1, .inl (cI, ln, .inl ik)), (i2, .inl (cI, ln, .inl ic)), (i5, .inl (cI, ln, .inl if_))] H := hP.sub [1, 2, 0, 3] kt_4_1_2_0_3
          have hD : va_D A [(t, .inr (4, [.int (nI cn), .ref i1, .ref i2, .ref i3, .ref i4, .ref i5, .ref i6, .ref i7, .ref i8, .ref i9])), (i1, .inl (cI, ln, .inl ik)), (i2, .inl (cI, ln, .inl ic)), (i5, .inl (cI, ln, .inl if_))] := hD.sub [1, 2, 0, 3] (by decide) ks_4_1_2_0_3
          have hw94 : r94 = kb_p (pk_fl ik if_ cn i (nI 4)) := hw94
          subst hw94
          refine lv_if_ne (tgt := 104) hx hb dd_It_mayBreakAt_97 (by decide) (fun c97 => ?_) (fun c97 => ?_)
          · skip
            have c97 : pk_fl ik if_ cn i (nI 4) := kb_1.mp c97
            refine lv_iconst (v := nI 0) hx hb dd_It_mayBreakAt_104 (by decide) ?_
            rw [hQ]
            exact kx_zret hx hb hr hlocks hK hN hS dd_It_mayBreakAt_105 (by decide) () hP hD (by first | (refine kb_t ?_; unfold pk_br; rw [if_pos c9, if_neg t20_1, if_neg t20_2, if_neg t20_3, if_pos t20_4]; first | exact Or.inl c88 | exact Or.inr c97) | (refine kb_f ?_; unfold pk_br; rw [if_pos c9, if_neg t20_1, if_neg t20_2, if_neg t20_3, if_pos t20_4]; exact fun q => q.elim (fun z => z c88) (fun z => z c97)))
          · skip
            have c97 : ¬ (pk_fl ik if_ cn i (nI 4)) := kb_0.mp c97
            refine lv_iconst (v := nI 1) hx hb dd_It_mayBreakAt_100 (by decide) ?_
            refine lv_goto (tgt := 105) hx hb dd_It_mayBreakAt_101 (by decide) ?_
            rw [hQ]
            exact kx_zret hx hb hr hlocks hK hN hS dd_It_mayBreakAt_105 (by decide) () hP hD (by first | (refine kb_t ?_; unfold pk_br; rw [if_pos c9, if_neg t20_1, if_neg t20_2, if_neg t20_3, if_pos t20_4]; first | exact Or.inl c88 | exact Or.inr c97) | (refine kb_f ?_; unfold pk_br; rw [if_pos c9, if_neg t20_1, if_neg t20_2, if_neg t20_3, if_pos t20_4]; exact fun q => q.elim (fun z => z c88) (fun z => z c97)))
      refine lv_tableOut (tgt := 106) hx hb dd_It_mayBreakAt_20 (by have := lv_neT t20_1 (a := 1) (by decide +kernel); have := lv_neT t20_2 (a := 2) (by decide +kernel); have := lv_neT t20_3 (a := 3) (by decide +kernel); have := lv_neT t20_4 (a := 4) (by decide +kernel); omega) (by decide) ?_
      refine lv_iconst (v := nI 0) hx hb dd_It_mayBreakAt_106 (by decide) ?_
      rw [hQ]
      exact kx_zret hx hb hr hlocks hK hN hS dd_It_mayBreakAt_107 (by decide) () hP hD (by refine kb_f ?_; unfold pk_br; rw [if_pos c9, if_neg t20_1, if_neg t20_2, if_neg t20_3, if_neg t20_4]; exact id)
    · skip
      have c9 : ¬ (i < cn) := fun h => c9 ((nI_ltI (by omega) (by omega)).mpr h)
      refine lv_iconst (v := nI 0) hx hb dd_It_mayBreakAt_12 (by decide) ?_
      rw [hQ]
      exact kx_zret hx hb hr hlocks hK hN hS dd_It_mayBreakAt_13 (by decide) () hP hD (by refine kb_f ?_; unfold pk_br; rw [if_neg c9]; exact id)
