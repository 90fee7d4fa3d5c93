/-! rows, fits, springs, items: small methods -/
theorem kt_2_0_1 {c0 c1 : Nat × va_E} : ([0, 1] : List Nat).filterMap (fun i => ([c0, c1] : va_W)[i]?) = ([c0, c1] : va_W) := rfl
theorem kt_5_0_4 {c0 c1 c2 c3 c4 : Nat × va_E} : ([0, 4] : List Nat).filterMap (fun i => ([c0, c1, c2, c3, c4] : va_W)[i]?) = ([c0, c4] : va_W) := rfl
theorem ks_5_0_4 {c0 c1 c2 c3 c4 : Nat × va_E} : ([0, 4] : List Nat).map (fun i => ([c0, c1, c2, c3, c4] : va_W)[i]?) = ([c0, c4] : va_W).map some := rfl
theorem ks_5_1_2_3 {c0 c1 c2 c3 c4 : Nat × va_E} : ([1, 2, 3] : List Nat).map (fun i => ([c0, c1, c2, c3, c4] : va_W)[i]?) = ([c1, c2, c3] : va_W).map some := rfl
theorem kt_5_3_0_1_2_4 {c0 c1 c2 c3 c4 : Nat × va_E} : ([3, 0, 1, 2, 4] : List Nat).filterMap (fun i => ([c0, c1, c2, c3, c4] : va_W)[i]?) = ([c3, c0, c1, c2, c4] : va_W) := rfl
theorem ks_5_3_0_1_2_4 {c0 c1 c2 c3 c4 : Nat × va_E} : ([3, 0, 1, 2, 4] : List Nat).map (fun i => ([c0, c1, c2, c3, c4] : va_W)[i]?) = ([c3, c0, c1, c2, c4] : va_W).map some := rfl
theorem kz_5_1 {c0 c1 c2 c3 c4 : Nat × va_E} {x : Nat × va_E} : ([c0, c1, c2, c3, c4] : va_W).set 1 x = [c0, x, c2, c3, c4] := rfl
theorem kz_5_2 {c0 c1 c2 c3 c4 : Nat × va_E} {x : Nat × va_E} : ([c0, c1, c2, c3, c4] : va_W).set 2 x = [c0, c1, x, c3, c4] := rfl
theorem kz_5_3 {c0 c1 c2 c3 c4 : Nat × va_E} {x : Nat × va_E} : ([c0, c1, c2, c3, c4] : va_W).set 3 x = [c0, c1, c2, x, c4] := rfl
theorem kt_1_ {c0 : Nat × va_E} : ([] : List Nat).filterMap (fun i => ([c0] : va_W)[i]?) = ([] : va_W) := rfl
theorem ks_1_ {c0 : Nat × va_E} : ([] : List Nat).map (fun i => ([c0] : va_W)[i]?) = ([] : va_W).map some := rfl
theorem ks_1_0 {c0 : Nat × va_E} : ([0] : List Nat).map (fun i => ([c0] : va_W)[i]?) = ([c0] : va_W).map some := rfl
theorem kt_1_0 {c0 : Nat × va_E} : ([0] : List Nat).filterMap (fun i => ([c0] : va_W)[i]?) = ([c0] : va_W) := rfl
theorem kw_10 : Cond.selects rr_Rw yy_Rw_isBetter yy_Rw_isBetter ∈ kx_T := kx_in (i := 10) (by decide +kernel) (by decide +kernel)
theorem kw_14 : Cond.selects rr_Ft yy_Ft_set yy_Ft_set ∈ kx_T := kx_in (i := 14) (by decide +kernel) (by decide +kernel)
theorem kw_50 : Cond.initialized rr_Ft ∈ kx_T := kx_in (i := 50) (by decide +kernel) (by decide +kernel)
theorem kw_51 : Cond.initialized rr_Rw ∈ kx_T := kx_in (i := 51) (by decide +kernel) (by decide +kernel)
theorem kw_82 : Cond.fieldLink rr_Sp (7) "LineDesk$Spring" "width" "J" ∈ kx_T := kx_in (i := 82) (by decide +kernel) (by decide +kernel)
theorem kw_84 : Cond.fieldLink rr_Sp (13) "LineDesk$Spring" "stretch" "J" ∈ kx_T := kx_in (i := 84) (by decide +kernel) (by decide +kernel)
theorem kw_86 : Cond.fieldLink rr_Sp (16) "LineDesk$Spring" "highStretch" "J" ∈ kx_T := kx_in (i := 86) (by decide +kernel) (by decide +kernel)
theorem kw_88 : Cond.fieldLink rr_Sp (19) "LineDesk$Spring" "shrink" "J" ∈ kx_T := kx_in (i := 88) (by decide +kernel) (by decide +kernel)
theorem kw_131 : Cond.fieldLink rr_It (40) "LineDesk$Items" "count" "I" ∈ kx_T := kx_in (i := 131) (by decide +kernel) (by decide +kernel)
theorem kw_134 : Cond.fieldLink rr_It (9) "LineDesk$Items" "kind" "[I" ∈ kx_T := kx_in (i := 134) (by decide +kernel) (by decide +kernel)
theorem kw_232 : Cond.fieldLink rr_Ft (95) "LineDesk$Fit" "badness" "I" ∈ kx_T := kx_in (i := 232) (by decide +kernel) (by decide +kernel)
theorem kw_235 : Cond.fieldLink rr_Ft (99) "LineDesk$Fit" "fitClass" "I" ∈ kx_T := kx_in (i := 235) (by decide +kernel) (by decide +kernel)
theorem kw_238 : Cond.fieldLink rr_Ft (102) "LineDesk$Fit" "out" "J" ∈ kx_T := kx_in (i := 238) (by decide +kernel) (by decide +kernel)
theorem kw_258 : Cond.fieldLink rr_Rw (33) "LineDesk$Row" "any" "Z" ∈ kx_T := kx_in (i := 258) (by decide +kernel) (by decide +kernel)
theorem kw_658 : Cond.methodLink rr_Rw (43) yy_Rw_has ∈ kx_T := kx_in (i := 658) (by decide +kernel) (by decide +kernel)
theorem kw_659 : Cond.instanceMethod yy_Rw_has ∈ kx_T := kx_in (i := 659) (by decide +kernel) (by decide +kernel)
theorem kw_660 : Cond.selects rr_Rw yy_Rw_has yy_Rw_has ∈ kx_T := kx_in (i := 660) (by decide +kernel) (by decide +kernel)
set_option maxRecDepth 100000 in
theorem kw_661 : Cond.code yy_Rw_has bb_Rw_has 2 (some .boolean) ∈ kx_T := kx_in (i := 661) rfl (by decide +kernel)
theorem kw_662 : Cond.methodLink rr_Rw (47) yy_Rw_isBetter ∈ kx_T := kx_in (i := 662) (by decide +kernel) (by decide +kernel)
theorem kw_664 : Cond.instanceMethod yy_Rw_isBetter ∈ kx_T := kx_in (i := 664) (by decide +kernel) (by decide +kernel)
set_option maxRecDepth 100000 in
theorem kw_665 : Cond.code yy_Rw_isBetter bb_Rw_isBetter 8 (some .boolean) ∈ kx_T := kx_in (i := 665) rfl (by decide +kernel)
theorem kw_698 : Cond.methodLink rr_Ft (79) yy_Ft_set ∈ kx_T := kx_in (i := 698) (by decide +kernel) (by decide +kernel)
theorem kw_700 : Cond.instanceMethod yy_Ft_set ∈ kx_T := kx_in (i := 700) (by decide +kernel) (by decide +kernel)
set_option maxRecDepth 100000 in
theorem kw_701 : Cond.code yy_Ft_set bb_Ft_set 5 none ∈ kx_T := kx_in (i := 701) rfl (by decide +kernel)
theorem kw_702 : Cond.methodLink rr_Ft (91) yy_Ft_badnessOf ∈ kx_T := kx_in (i := 702) (by decide +kernel) (by decide +kernel)
theorem kw_703 : Cond.static yy_Ft_badnessOf ∈ kx_T := kx_in (i := 703) (by decide +kernel) (by decide +kernel)
set_option maxRecDepth 100000 in
theorem kw_704 : Cond.code yy_Ft_badnessOf bb_Ft_badnessOf 6 (some .int) ∈ kx_T := kx_in (i := 704) rfl (by decide +kernel)
theorem kw_705 : Cond.constantLong rr_Ft (105) (297) ∈ kx_T := kx_in (i := 705) (by decide +kernel) (by decide +kernel)
theorem kw_706 : Cond.constantLong rr_Ft (107) (1290) ∈ kx_T := kx_in (i := 706) (by decide +kernel) (by decide +kernel)
theorem kw_707 : Cond.constantLong rr_Ft (109) (131072) ∈ kx_T := kx_in (i := 707) (by decide +kernel) (by decide +kernel)
theorem kw_708 : Cond.constantLong rr_Ft (111) (262144) ∈ kx_T := kx_in (i := 708) (by decide +kernel) (by decide +kernel)
theorem dd_Rw_hasAny_0 : decode bb_Rw_hasAny 0 = .ok (.iload_n 1, 1) := by decide +kernel
theorem dd_Rw_hasAny_1 : decode bb_Rw_hasAny 1 = .ok (.iconst 4, 1) := by decide +kernel
theorem dd_Rw_hasAny_2 : decode bb_Rw_hasAny 2 = .ok (.imul, 1) := by decide +kernel
theorem dd_Rw_hasAny_3 : decode bb_Rw_hasAny 3 = .ok (.istore_n 2, 1) := by decide +kernel
theorem dd_Rw_hasAny_4 : decode bb_Rw_hasAny 4 = .ok (.aload_n 0, 1) := by decide +kernel
theorem dd_Rw_hasAny_5 : decode bb_Rw_hasAny 5 = .ok (.iload_n 2, 1) := by decide +kernel
theorem dd_Rw_hasAny_6 : decode bb_Rw_hasAny 6 = .ok (.invokevirtual 43, 3) := by decide +kernel
theorem dd_Rw_hasAny_9 : decode bb_Rw_hasAny 9 = .ok (.ifCond .ne (33), 3) := by decide +kernel
theorem dd_Rw_hasAny_12 : decode bb_Rw_hasAny 12 = .ok (.aload_n 0, 1) := by decide +kernel
theorem dd_Rw_hasAny_13 : decode bb_Rw_hasAny 13 = .ok (.iload_n 2, 1) := by decide +kernel
theorem dd_Rw_hasAny_14 : decode bb_Rw_hasAny 14 = .ok (.iconst 1, 1) := by decide +kernel
theorem dd_Rw_hasAny_15 : decode bb_Rw_hasAny 15 = .ok (.iadd, 1) := by decide +kernel
theorem dd_Rw_hasAny_16 : decode bb_Rw_hasAny 16 = .ok (.invokevirtual 43, 3) := by decide +kernel
theorem dd_Rw_hasAny_19 : decode bb_Rw_hasAny 19 = .ok (.ifCond .ne (23), 3) := by decide +kernel
theorem dd_Rw_hasAny_22 : decode bb_Rw_hasAny 22 = .ok (.aload_n 0, 1) := by decide +kernel
theorem dd_Rw_hasAny_23 : decode bb_Rw_hasAny 23 = .ok (.iload_n 2, 1) := by decide +kernel
theorem dd_Rw_hasAny_24 : decode bb_Rw_hasAny 24 = .ok (.iconst 2, 1) := by decide +kernel
theorem dd_Rw_hasAny_25 : decode bb_Rw_hasAny 25 = .ok (.iadd, 1) := by decide +kernel
theorem dd_Rw_hasAny_26 : decode bb_Rw_hasAny 26 = .ok (.invokevirtual 43, 3) := by decide +kernel
theorem dd_Rw_hasAny_29 : decode bb_Rw_hasAny 29 = .ok (.ifCond .ne (13), 3) := by decide +kernel
theorem dd_Rw_hasAny_32 : decode bb_Rw_hasAny 32 = .ok (.aload_n 0, 1) := by decide +kernel
theorem dd_Rw_hasAny_33 : decode bb_Rw_hasAny 33 = .ok (.iload_n 2, 1) := by decide +kernel
theorem dd_Rw_hasAny_34 : decode bb_Rw_hasAny 34 = .ok (.iconst 3, 1) := by decide +kernel
theorem dd_Rw_hasAny_35 : decode bb_Rw_hasAny 35 = .ok (.iadd, 1) := by decide +kernel
theorem dd_Rw_hasAny_36 : decode bb_Rw_hasAny 36 = .ok (.invokevirtual 43, 3) := by decide +kernel
theorem dd_Rw_hasAny_39 : decode bb_Rw_hasAny 39 = .ok (.ifCond .eq (7), 3) := by decide +kernel
theorem dd_Rw_hasAny_42 : decode bb_Rw_hasAny 42 = .ok (.iconst 1, 1) := by decide +kernel
theorem dd_Rw_hasAny_43 : decode bb_Rw_hasAny 43 = .ok (.goto (4), 3) := by decide +kernel
theorem dd_Rw_hasAny_46 : decode bb_Rw_hasAny 46 = .ok (.iconst 0, 1) := by decide +kernel
theorem dd_Rw_hasAny_47 : decode bb_Rw_hasAny 47 = .ok (.ireturn, 1) := by decide +kernel

set_option maxHeartbeats 4000000 in
set_option maxRecDepth 100000 in
theorem ct_Rw_hasAny (l : Launch) (D : va_G) (cI cJ cZ : ClassId) (sz : Nat) (o : Nat) (q0 : Nat) (q1 : Nat) (q2 : Nat) (q3 : Nat) (ln : Nat) (an : Int32) (rc : Nat → Int32) (bb : Nat) (hp : bb * 4 + 3 < ln) (hln : ln < 2 ^ 31) : kx_Mi l yy_Rw_hasAny ww_Rw_hasAny ({ frames := 1, cells := 0, slots := 0, locals := 21 }) D vwCl (kx_ty cI cJ cZ) [.ref o, .int (nI bb)] [(o, .inr (6, [.int an, .ref q0, .ref q1, .ref q2, .ref q3])), (q3, .inl (cI, ln, .inl rc))] sz (fun (r : Int32) (u : Unit) => r = kb_p (¬ rc (bb * 4) = (-1) ∨ ¬ rc (bb * 4 + 1) = (-1) ∨ ¬ rc (bb * 4 + 2) = (-1) ∨ ¬ rc (bb * 4 + 3) = (-1))) (fun (u : Unit) => [(o, .inr (6, [.int an, .ref q0, .ref q1, .ref q2, .ref q3])), (q3, .inl (cI, ln, .inl rc))]) 0 0 := by
  refine kx_starti (by decide) rfl (Nat.le_of_ble_eq_true rfl) ?_
  intro p e s m below meth c A ls hx hb hr hml hts hown hlocks hin hP hK hN hD hA hS hl
  have hl : lv_has ls 3 [(0, .ref o), (1, .int (nI bb))] := hl
  have hown : s.vm.findClass rr_Rw = some m.cls := hown
  obtain ⟨H, hH⟩ : ∃ H, H = s.heap := ⟨_, rfl⟩
  obtain ⟨locs, hlocs⟩ : ∃ z : List Loc, z = [] := ⟨_, rfl⟩
  have hP : va_P D vwCl [(o, .inr (6, [.int an, .ref q0, .ref q1, .ref q2, .ref q3])), (q3, .inl (cI, ln, .inl rc))] H := by rw [hH]; exact hP
  have hS : va_S A s.heap H locs := by rw [hH, hlocs]; exact hS
  refine kx_gen hH hlocs ?_
  clear hH hlocs
  refine kx_nameQ (fun Q hQ => ?_)
  refine lv_iload_n hx hb dd_Rw_hasAny_0 rfl (lv_at hl 1 rfl) ?_
  refine lv_iconst (v := nI 4) hx hb dd_Rw_hasAny_1 (by decide) ?_
  refine kx_imul hx hb dd_Rw_hasAny_2 ?_
  refine lv_istore_n (lv' := [(2, .int (nI (bb * 4))), (0, .ref o), (1, .int (nI bb))]) hx hb dd_Rw_hasAny_3 rfl hl (by decide) rfl (fun ls hl => ?_)
  refine lv_aload_n hx hb dd_Rw_hasAny_4 rfl (lv_at hl 1 rfl) ?_
  refine lv_iload_n hx hb dd_Rw_hasAny_5 rfl (lv_at hl 0 rfl) ?_
  refine kx_calli (wr := []) (va_runV (C := rr_Rw) (As := [.int (nI (bb * 4))]) (rest := []) ⟨hx, hb, hml, hown, hts⟩ (ct_Rw_has l D cI cJ cZ H.size o q0 q1 q2 q3 ln an rc (bb * 4) (by omega) (by omega)) ⟨(callB_of 1 hts (kx_good kw_661) rfl rfl rfl (hts _ (kx_m kw_51)) (hts _ (kx_m kw_658)) (by decide +kernel) ⟨Nat.le_of_ble_eq_true rfl, Nat.le_of_ble_eq_true rfl⟩), (hts _ (kx_m kw_659)), (hts _ (kx_m kw_660))⟩ (kx_preV (ci := 6) (q0 := 0) hK hN (hP.sub [0, 1] kt_2_0_1) (hD.sub [0, 1] (by decide) ks_2_0_1) rfl kg_2_0) rfl rfl hl.1 rfl (lv_room (Nat.le_of_ble_eq_true rfl)) dd_Rw_hasAny_6 ⟨Nat.le_of_ble_eq_true rfl, Nat.le_of_ble_eq_true rfl⟩) hP hD hS hA [0, 1] [] ks_2_0_1 ks_2_ (by decide) (by decide) (fun r6 u6 H locs hw6 hP hD hS => ?_)
  have hP : va_P D vwCl [(o, .inr (6, [.int an, .ref q0, .ref q1, .ref q2, .ref q3])), (q3, .inl (cI, ln, .inl rc))] H := hP
  have hD : va_D A [(o, .inr (6, [.int an, .ref q0, .ref q1, .ref q2, .ref q3])), (q3, .inl (cI, ln, .inl rc))] := hD
  have hw6 : r6 = kb_p (¬ rc (bb * 4) = (-1)) := hw6
  subst hw6
  refine lv_if_ne (tgt := 42) hx hb dd_Rw_hasAny_9 (by decide) (fun c9 => ?_) (fun c9 => ?_)
  · skip
    have c9 : ¬ rc (bb * 4) = (-1) := kb_1.mp c9
    refine lv_iconst (v := nI 1) hx hb dd_Rw_hasAny_42 (by decide) ?_
    refine lv_goto (tgt := 47) hx hb dd_Rw_hasAny_43 (by decide) ?_
    rw [hQ]
    exact kx_zret hx hb hr hlocks hK hN hS dd_Rw_hasAny_47 (by decide) () hP hD (by clear hP hD hS hK hl hts; first | (refine kb_t ?_; simp_all; done) | (refine kb_f ?_; simp_all; done) | (refine kb_t ?_; simp_all <;> (intros; omega)) | (refine kb_f ?_; simp_all <;> (intros; omega)))
  · skip
    have c9 : ¬ (¬ rc (bb * 4) = (-1)) := kb_0.mp c9
    refine lv_aload_n hx hb dd_Rw_hasAny_12 rfl (lv_at hl 1 rfl) ?_
    refine lv_iload_n hx hb dd_Rw_hasAny_13 rfl (lv_at hl 0 rfl) ?_
    refine lv_iconst (v := nI 1) hx hb dd_Rw_hasAny_14 (by decide) ?_
    refine kx_iadd hx hb dd_Rw_hasAny_15 ?_
    refine kx_calli (wr := []) (va_runV (C := rr_Rw) (As := [.int (nI ((bb * 4) + 1))]) (rest := []) ⟨hx, hb, hml, hown, hts⟩ (ct_Rw_has l D cI cJ cZ H.size o q0 q1 q2 q3 ln an rc ((bb * 4) + 1) (by omega) (by omega)) ⟨(callB_of 1 hts (kx_good kw_661) rfl rfl rfl (hts _ (kx_m kw_51)) (hts _ (kx_m kw_658)) (by decide +kernel) ⟨Nat.le_of_ble_eq_true rfl, Nat.le_of_ble_eq_true rfl⟩), (hts _ (kx_m kw_659)), (hts _ (kx_m kw_660))⟩ (kx_preV (ci := 6) (q0 := 0) hK hN (hP.sub [0, 1] kt_2_0_1) (hD.sub [0, 1] (by decide) ks_2_0_1) rfl kg_2_0) rfl rfl hl.1 rfl (lv_room (Nat.le_of_ble_eq_true rfl)) dd_Rw_hasAny_16 ⟨Nat.le_of_ble_eq_true rfl, Nat.le_of_ble_eq_true rfl⟩) hP hD hS hA [0, 1] [] ks_2_0_1 ks_2_ (by decide) (by decide) (fun r16 u16 H locs hw16 hP hD hS => ?_)
    have hP : va_P D vwCl [(o, .inr (6, [.int an, .ref q0, .ref q1, .ref q2, .ref q3])), (q3, .inl (cI, ln, .inl rc))] H := hP
    have hD : va_D A [(o, .inr (6, [.int an, .ref q0, .ref q1, .ref q2, .ref q3])), (q3, .inl (cI, ln, .inl rc))] := hD
    have hw16 : r16 = kb_p (¬ rc ((bb * 4) + 1) = (-1)) := hw16
    subst hw16
    refine lv_if_ne (tgt := 42) hx hb dd_Rw_hasAny_19 (by decide) (fun c19 => ?_) (fun c19 => ?_)
    · skip
      have c19 : ¬ rc ((bb * 4) + 1) = (-1) := kb_1.mp c19
      refine lv_iconst (v := nI 1) hx hb dd_Rw_hasAny_42 (by decide) ?_
      refine lv_goto (tgt := 47) hx hb dd_Rw_hasAny_43 (by decide) ?_
      rw [hQ]
      exact kx_zret hx hb hr hlocks hK hN hS dd_Rw_hasAny_47 (by decide) () hP hD (by clear hP hD hS hK hl hts; first | (refine kb_t ?_; simp_all; done) | (refine kb_f ?_; simp_all; done) | (refine kb_t ?_; simp_all <;> (intros; omega)) | (refine kb_f ?_; simp_all <;> (intros; omega)))
    · skip
      have c19 : ¬ (¬ rc ((bb * 4) + 1) = (-1)) := kb_0.mp c19
      refine lv_aload_n hx hb dd_Rw_hasAny_22 rfl (lv_at hl 1 rfl) ?_
      refine lv_iload_n hx hb dd_Rw_hasAny_23 rfl (lv_at hl 0 rfl) ?_
      refine lv_iconst (v := nI 2) hx hb dd_Rw_hasAny_24 (by decide) ?_
      refine kx_iadd hx hb dd_Rw_hasAny_25 ?_
      refine kx_calli (wr := []) (va_runV (C := rr_Rw) (As := [.int (nI ((bb * 4) + 2))]) (rest := []) ⟨hx, hb, hml, hown, hts⟩ (ct_Rw_has l D cI cJ cZ H.size o q0 q1 q2 q3 ln an rc ((bb * 4) + 2) (by omega) (by omega)) ⟨(callB_of 1 hts (kx_good kw_661) rfl rfl rfl (hts _ (kx_m kw_51)) (hts _ (kx_m kw_658)) (by decide +kernel) ⟨Nat.le_of_ble_eq_true rfl, Nat.le_of_ble_eq_true rfl⟩), (hts _ (kx_m kw_659)), (hts _ (kx_m kw_660))⟩ (kx_preV (ci := 6) (q0 := 0) hK hN (hP.sub [0, 1] kt_2_0_1) (hD.sub [0, 1] (by decide) ks_2_0_1) rfl kg_2_0) rfl rfl hl.1 rfl (lv_room (Nat.le_of_ble_eq_true rfl)) dd_Rw_hasAny_26 ⟨Nat.le_of_ble_eq_true rfl, Nat.le_of_ble_eq_true rfl⟩) hP hD hS hA [0, 1] [] ks_2_0_1 ks_2_ (by decide) (by decide) (fun r26 u26 H locs hw26 hP hD hS => ?_)
      have hP : va_P D vwCl [(o, .inr (6, [.int an, .ref q0, .ref q1, .ref q2, .ref q3])), (q3, .inl (cI, ln, .inl rc))] H := hP
      have hD : va_D A [(o, .inr (6, [.int an, .ref q0, .ref q1, .ref q2, .ref q3])), (q3, .inl (cI, ln, .inl rc))] := hD
      have hw26 : r26 = kb_p (¬ rc ((bb * 4) + 2) = (-1)) := hw26
      subst hw26
      refine lv_if_ne (tgt := 42) hx hb dd_Rw_hasAny_29 (by decide) (fun c29 => ?_) (fun c29 => ?_)
      · skip
        have c29 : ¬ rc ((bb * 4) + 2) = (-1) := kb_1.mp c29
        refine lv_iconst (v := nI 1) hx hb dd_Rw_hasAny_42 (by decide) ?_
        refine lv_goto (tgt := 47) hx hb dd_Rw_hasAny_43 (by decide) ?_
        rw [hQ]
        exact kx_zret hx hb hr hlocks hK hN hS dd_Rw_hasAny_47 (by decide) () hP hD (by clear hP hD hS hK hl hts; first | (refine kb_t ?_; simp_all; done) | (refine kb_f ?_; simp_all; done) | (refine kb_t ?_; simp_all <;> (intros; omega)) | (refine kb_f ?_; simp_all <;> (intros; omega)))
      · skip
        have c29 : ¬ (¬ rc ((bb * 4) + 2) = (-1)) := kb_0.mp c29
        refine lv_aload_n hx hb dd_Rw_hasAny_32 rfl (lv_at hl 1 rfl) ?_
        refine lv_iload_n hx hb dd_Rw_hasAny_33 rfl (lv_at hl 0 rfl) ?_
        refine lv_iconst (v := nI 3) hx hb dd_Rw_hasAny_34 (by decide) ?_
        refine kx_iadd hx hb dd_Rw_hasAny_35 ?_
        refine kx_calli (wr := []) (va_runV (C := rr_Rw) (As := [.int (nI ((bb * 4) + 3))]) (rest := []) ⟨hx, hb, hml, hown, hts⟩ (ct_Rw_has l D cI cJ cZ H.size o q0 q1 q2 q3 ln an rc ((bb * 4) + 3) (by omega) (by omega)) ⟨(callB_of 1 hts (kx_good kw_661) rfl rfl rfl (hts _ (kx_m kw_51)) (hts _ (kx_m kw_658)) (by decide +kernel) ⟨Nat.le_of_ble_eq_true rfl, Nat.le_of_ble_eq_true rfl⟩), (hts _ (kx_m kw_659)), (hts _ (kx_m kw_660))⟩ (kx_preV (ci := 6) (q0 := 0) hK hN (hP.sub [0, 1] kt_2_0_1) (hD.sub [0, 1] (by decide) ks_2_0_1) rfl kg_2_0) rfl rfl hl.1 rfl (lv_room (Nat.le_of_ble_eq_true rfl)) dd_Rw_hasAny_36 ⟨Nat.le_of_ble_eq_true rfl, Nat.le_of_ble_eq_true rfl⟩) hP hD hS hA [0, 1] [] ks_2_0_1 ks_2_ (by decide) (by decide) (fun r36 u36 H locs hw36 hP hD hS => ?_)
        have hP : va_P D vwCl [(o, .inr (6, [.int an, .ref q0, .ref q1, .ref q2, .ref q3])), (q3, .inl (cI, ln, .inl rc))] H := hP
        have hD : va_D A [(o, .inr (6, [.int an, .ref q0, .ref q1, .ref q2, .ref q3])), (q3, .inl (cI, ln, .inl rc))] := hD
        have hw36 : r36 = kb_p (¬ rc ((bb * 4) + 3) = (-1)) := hw36
        subst hw36
        refine lv_if_eq (tgt := 46) hx hb dd_Rw_hasAny_39 (by decide) (fun c39 => ?_) (fun c39 => ?_)
        · skip
          have c39 : ¬ (¬ rc ((bb * 4) + 3) = (-1)) := kb_0.mp c39
          refine lv_iconst (v := nI 0) hx hb dd_Rw_hasAny_46 (by decide) ?_
          rw [hQ]
          exact kx_zret hx hb hr hlocks hK hN hS dd_Rw_hasAny_47 (by decide) () hP hD (by clear hP hD hS hK hl hts; first | (refine kb_t ?_; simp_all; done) | (refine kb_f ?_; simp_all; done) | (refine kb_t ?_; simp_all <;> (intros; omega)) | (refine kb_f ?_; simp_all <;> (intros; omega)))
        · skip
          have c39 : ¬ rc ((bb * 4) + 3) = (-1) := kb_1.mp c39
          refine lv_iconst (v := nI 1) hx hb dd_Rw_hasAny_42 (by decide) ?_
          refine lv_goto (tgt := 47) hx hb dd_Rw_hasAny_43 (by decide) ?_
          rw [hQ]
          exact kx_zret hx hb hr hlocks hK hN hS dd_Rw_hasAny_47 (by decide) () hP hD (by clear hP hD hS hK hl hts; first | (refine kb_t ?_; simp_all; done) | (refine kb_f ?_; simp_all; done) | (refine kb_t ?_; simp_all <;> (intros; omega)) | (refine kb_f ?_; simp_all <;> (intros; omega)))

theorem dd_Rw_offer_0 : decode bb_Rw_offer 0 = .ok (.aload_n 0, 1) := by decide +kernel
theorem dd_Rw_offer_1 : decode bb_Rw_offer 1 = .ok (.iload_n 1, 1) := by decide +kernel
theorem dd_Rw_offer_2 : decode bb_Rw_offer 2 = .ok (.invokevirtual 43, 3) := by decide +kernel
theorem dd_Rw_offer_5 : decode bb_Rw_offer 5 = .ok (.ifCond .eq (20), 3) := by decide +kernel
theorem dd_Rw_offer_8 : decode bb_Rw_offer 8 = .ok (.aload_n 0, 1) := by decide +kernel
theorem dd_Rw_offer_9 : decode bb_Rw_offer 9 = .ok (.iload_n 1, 1) := by decide +kernel
theorem dd_Rw_offer_10 : decode bb_Rw_offer 10 = .ok (.lload_n 2, 1) := by decide +kernel
theorem dd_Rw_offer_11 : decode bb_Rw_offer 11 = .ok (.iload 4, 2) := by decide +kernel
theorem dd_Rw_offer_13 : decode bb_Rw_offer 13 = .ok (.lload 5, 2) := by decide +kernel
theorem dd_Rw_offer_15 : decode bb_Rw_offer 15 = .ok (.iload 7, 2) := by decide +kernel
theorem dd_Rw_offer_17 : decode bb_Rw_offer 17 = .ok (.invokevirtual 47, 3) := by decide +kernel
theorem dd_Rw_offer_20 : decode bb_Rw_offer 20 = .ok (.ifCond .ne (5), 3) := by decide +kernel
theorem dd_Rw_offer_23 : decode bb_Rw_offer 23 = .ok (.iconst 0, 1) := by decide +kernel
theorem dd_Rw_offer_24 : decode bb_Rw_offer 24 = .ok (.ireturn, 1) := by decide +kernel
theorem dd_Rw_offer_25 : decode bb_Rw_offer 25 = .ok (.aload_n 0, 1) := by decide +kernel
theorem dd_Rw_offer_26 : decode bb_Rw_offer 26 = .ok (.iconst 1, 1) := by decide +kernel
theorem dd_Rw_offer_27 : decode bb_Rw_offer 27 = .ok (.putfield 33, 3) := by decide +kernel
theorem dd_Rw_offer_30 : decode bb_Rw_offer 30 = .ok (.aload_n 0, 1) := by decide +kernel
theorem dd_Rw_offer_31 : decode bb_Rw_offer 31 = .ok (.getfield 15, 3) := by decide +kernel
theorem dd_Rw_offer_34 : decode bb_Rw_offer 34 = .ok (.iload_n 1, 1) := by decide +kernel
theorem dd_Rw_offer_35 : decode bb_Rw_offer 35 = .ok (.lload_n 2, 1) := by decide +kernel
theorem dd_Rw_offer_36 : decode bb_Rw_offer 36 = .ok (.lastore, 1) := by decide +kernel
theorem dd_Rw_offer_37 : decode bb_Rw_offer 37 = .ok (.aload_n 0, 1) := by decide +kernel
theorem dd_Rw_offer_38 : decode bb_Rw_offer 38 = .ok (.getfield 19, 3) := by decide +kernel
theorem dd_Rw_offer_41 : decode bb_Rw_offer 41 = .ok (.iload_n 1, 1) := by decide +kernel
theorem dd_Rw_offer_42 : decode bb_Rw_offer 42 = .ok (.iload 4, 2) := by decide +kernel
theorem dd_Rw_offer_44 : decode bb_Rw_offer 44 = .ok (.iastore, 1) := by decide +kernel
theorem dd_Rw_offer_45 : decode bb_Rw_offer 45 = .ok (.aload_n 0, 1) := by decide +kernel
theorem dd_Rw_offer_46 : decode bb_Rw_offer 46 = .ok (.getfield 23, 3) := by decide +kernel
theorem dd_Rw_offer_49 : decode bb_Rw_offer 49 = .ok (.iload_n 1, 1) := by decide +kernel
theorem dd_Rw_offer_50 : decode bb_Rw_offer 50 = .ok (.lload 5, 2) := by decide +kernel
theorem dd_Rw_offer_52 : decode bb_Rw_offer 52 = .ok (.lastore, 1) := by decide +kernel
theorem dd_Rw_offer_53 : decode bb_Rw_offer 53 = .ok (.aload_n 0, 1) := by decide +kernel
theorem dd_Rw_offer_54 : decode bb_Rw_offer 54 = .ok (.getfield 26, 3) := by decide +kernel
theorem dd_Rw_offer_57 : decode bb_Rw_offer 57 = .ok (.iload_n 1, 1) := by decide +kernel
theorem dd_Rw_offer_58 : decode bb_Rw_offer 58 = .ok (.iload 7, 2) := by decide +kernel
theorem dd_Rw_offer_60 : decode bb_Rw_offer 60 = .ok (.iastore, 1) := by decide +kernel
theorem dd_Rw_offer_61 : decode bb_Rw_offer 61 = .ok (.iconst 1, 1) := by decide +kernel
theorem dd_Rw_offer_62 : decode bb_Rw_offer 62 = .ok (.ireturn, 1) := by decide +kernel

set_option maxHeartbeats 4000000 in
set_option maxRecDepth 100000 in
theorem ct_Rw_offer (l : Launch) (D : va_G) (cI cJ cZ : ClassId) (sz : Nat) (o : Nat) (q0 : Nat) (q1 : Nat) (q2 : Nat) (q3 : Nat) (ln : Nat) (an : Int32) (ro : Nat → Int64) (rv : Nat → Int32) (rd : Nat → Int64) (rc : Nat → Int32) (pl : Nat) (no : Int64) (nv : Int32) (nd : Int64) (nc : Int32) (hp : pl < ln) (hln : ln < 2 ^ 31) : kx_Mi l yy_Rw_offer ww_Rw_offer ({ frames := 1, cells := 0, slots := 0, locals := 27 }) D vwCl (kx_ty cI cJ cZ) [.ref o, .int (nI pl), .long no, .int nv, .long nd, .int nc] [(o, .inr (6, [.int an, .ref q0, .ref q1, .ref q2, .ref q3])), (q0, .inl (cJ, ln, .inr (.inl ro))), (q1, .inl (cI, ln, .inl rv)), (q2, .inl (cJ, ln, .inr (.inl rd))), (q3, .inl (cI, ln, .inl rc))] sz (fun (r : Int32) (u : Int32 × (Nat → Int64) × (Nat → Int32) × (Nat → Int64) × (Nat → Int32)) => (r = kb_p (rc pl = (-1) ∨ pk_bt no (ro pl) nv (rv pl) nd (rd pl) nc (rc pl))) ∧ (if rc pl = (-1) ∨ pk_bt no (ro pl) nv (rv pl) nd (rd pl) nc (rc pl) then u.1 = nI 1 ∧ u.2.1 = vp_updL ro pl no ∧ u.2.2.1 = upd rv pl nv ∧ u.2.2.2.1 = vp_updL rd pl nd ∧ u.2.2.2.2 = upd rc pl nc else u.1 = an ∧ u.2.1 = ro ∧ u.2.2.1 = rv ∧ u.2.2.2.1 = rd ∧ u.2.2.2.2 = rc)) (fun (u : Int32 × (Nat → Int64) × (Nat → Int32) × (Nat → Int64) × (Nat → Int32)) => [(o, .inr (6, [.int u.1, .ref q0, .ref q1, .ref q2, .ref q3])), (q0, .inl (cJ, ln, .inr (.inl u.2.1))), (q1, .inl (cI, ln, .inl u.2.2.1)), (q2, .inl (cJ, ln, .inr (.inl u.2.2.2.1))), (q3, .inl (cI, ln, .inl u.2.2.2.2))]) 0 0 := by
  refine kx_starti (by decide) rfl (Nat.le_of_ble_eq_true rfl) ?_
  intro p e s m below meth c A ls hx hb hr hml hts hown hlocks hin hP hK hN hD hA hS hl
  have hl : lv_has ls 8 [(0, .ref o), (1, .int (nI pl)), (2, .long no), (4, .int nv), (5, .long nd), (7, .int nc)] := hl
  have hown : s.vm.findClass rr_Rw = some m.cls := hown
  have lk0 := hts _ (kx_m kw_258)
  have hin6 : ∀ w ∈ u_ws rr_Rw tt_Rw 5, w ∈ ww_Rw_offer := fun w h => kx_m (kf_Rw w h)
  have lk2 := hts _ (kx_m kw_259)
  have lk3 := hts _ (kx_m kw_261)
  have lk4 := hts _ (kx_m kw_263)
  have lk5 := hts _ (kx_m kw_265)
  obtain ⟨H, hH⟩ : ∃ H, H = s.heap := ⟨_, rfl⟩
  obtain ⟨locs, hlocs⟩ : ∃ z : List Loc, z = [] := ⟨_, rfl⟩
  have hP : va_P D vwCl [(o, .inr (6, [.int an, .ref q0, .ref q1, .ref q2, .ref q3])), (q0, .inl (cJ, ln, .inr (.inl ro))), (q1, .inl (cI, ln, .inl rv)), (q2, .inl (cJ, ln, .inr (.inl rd))), (q3, .inl (cI, ln, .inl rc))] H := by rw [hH]; exact hP
  have hS : va_S A s.heap H locs := by rw [hH, hlocs]; exact hS
  refine kx_gen hH hlocs ?_
  clear hH hlocs
  refine kx_nameQ (fun Q hQ => ?_)
  refine lv_aload_n hx hb dd_Rw_offer_0 rfl (lv_at hl 0 rfl) ?_
  refine lv_iload_n hx hb dd_Rw_offer_1 rfl (lv_at hl 1 rfl) ?_
  refine kx_calli (wr := [(q0, .inl (cJ, ln, .inr (.inl ro))), (q1, .inl (cI, ln, .inl rv)), (q2, .inl (cJ, ln, .inr (.inl rd)))]) (va_runV (C := rr_Rw) (As := [.int (nI pl)]) (rest := []) ⟨hx, hb, hml, hown, hts⟩ (ct_Rw_has l D cI cJ cZ H.size o q0 q1 q2 q3 ln an rc pl (by omega) (by omega)) ⟨(callB_of 1 hts (kx_good kw_661) rfl rfl rfl (hts _ (kx_m kw_51)) (hts _ (kx_m kw_658)) (by decide +kernel) ⟨Nat.le_of_ble_eq_true rfl, Nat.le_of_ble_eq_true rfl⟩), (hts _ (kx_m kw_659)), (hts _ (kx_m kw_660))⟩ (kx_preV (ci := 6) (q0 := 0) hK hN (hP.sub [0, 4] kt_5_0_4) (hD.sub [0, 4] (by decide) ks_5_0_4) rfl kg_2_0) rfl rfl hl.1 rfl (lv_room (Nat.le_of_ble_eq_true rfl)) dd_Rw_offer_2 ⟨Nat.le_of_ble_eq_true rfl, Nat.le_of_ble_eq_true rfl⟩) hP hD hS hA [0, 4] [1, 2, 3] ks_5_0_4 ks_5_1_2_3 (by decide) (by decide) (fun r2 u2 H locs hw2 hP hD hS => ?_)
  have hP : va_P D vwCl [(q0, .inl (cJ, ln, .inr (.inl ro))), (q1, .inl (cI, ln, .inl rv)), (q2, .inl (cJ, ln, .inr (.inl rd))), (o, .inr (6, [.int an, .ref q0, .ref q1, .ref q2, .ref q3])), (q3, .inl (cI, ln, .inl rc))] H := hP
  have hD : va_D A [(q0, .inl (cJ, ln, .inr (.inl ro))), (q1, .inl (cI, ln, .inl rv)), (q2, .inl (cJ, ln, .inr (.inl rd))), (o, .inr (6, [.int an, .ref q0, .ref q1, .ref q2, .ref q3])), (q3, .inl (cI, ln, .inl rc))] := hD
  have hP : va_P D vwCl [(o, .inr (6, [.int an, .ref q0, .ref q1, .ref q2, .ref q3])), (q0, .inl (cJ, ln, .inr (.inl ro))), (q1, .inl (cI, ln, .inl rv)), (q2, .inl (cJ, ln, .inr (.inl rd))), (q3, .inl (cI, ln, .inl rc))] H := hP.sub [3, 0, 1, 2, 4] kt_5_3_0_1_2_4
  have hD : va_D A [(o, .inr (6, [.int an, .ref q0, .ref q1, .ref q2, .ref q3])), (q0, .inl (cJ, ln, .inr (.inl ro))), (q1, .inl (cI, ln, .inl rv)), (q2, .inl (cJ, ln, .inr (.inl rd))), (q3, .inl (cI, ln, .inl rc))] := hD.sub [3, 0, 1, 2, 4] (by decide) ks_5_3_0_1_2_4
  have hw2 : r2 = kb_p (¬ rc pl = (-1)) := hw2
  subst hw2
  refine lv_if_eq (tgt := 25) hx hb dd_Rw_offer_5 (by decide) (fun c5 => ?_) (fun c5 => ?_)
  · skip
    have c5 : ¬ (¬ rc pl = (-1)) := kb_0.mp c5
    refine lv_aload_n hx hb dd_Rw_offer_25 rfl (lv_at hl 0 rfl) ?_
    refine lv_iconst (v := nI 1) hx hb dd_Rw_offer_26 (by decide) ?_
    refine va_put (D := D) (ci := 6) (v := .int (nI 1)) (ty := .boolean) (C := rr_Rw) (T := tt_Rw) (N := 5) hx hb hts hin6 ft_Rw ft_Rw_ok nn_Rw hown hK hP hD hS 0 kg_5_0 rfl 0 (by decide) lk0 (fun _ h9 => h9) rfl (by decide +kernel) rfl rfl (Nat.le_of_ble_eq_true rfl) dd_Rw_offer_27 (fun H locs hP hD hS => ?_)
    have hP : va_P D vwCl [(o, .inr (6, [.int (nI 1), .ref q0, .ref q1, .ref q2, .ref q3])), (q0, .inl (cJ, ln, .inr (.inl ro))), (q1, .inl (cI, ln, .inl rv)), (q2, .inl (cJ, ln, .inr (.inl rd))), (q3, .inl (cI, ln, .inl rc))] H := kx_cP kz_5_0 hP
    have hD : va_D A [(o, .inr (6, [.int (nI 1), .ref q0, .ref q1, .ref q2, .ref q3])), (q0, .inl (cJ, ln, .inr (.inl ro))), (q1, .inl (cI, ln, .inl rv)), (q2, .inl (cJ, ln, .inr (.inl rd))), (q3, .inl (cI, ln, .inl rc))] := kx_cD kz_5_0 hD
    refine lv_aload_n hx hb dd_Rw_offer_30 rfl (lv_at hl 0 rfl) ?_
    refine va_get (D := D) (ci := 6) (v := .ref q0) (C := rr_Rw) (T := tt_Rw) (N := 5) hx hb hts hin6 hown hK hP 0 kg_5_0 rfl 1 (by decide) lk2 (fun _ h9 => h9) rfl dd_Rw_offer_31 ?_
    refine lv_iload_n hx hb dd_Rw_offer_34 rfl (lv_at hl 1 rfl) ?_
    refine lv_lload_n hx hb dd_Rw_offer_35 rfl (lv_at hl 2 rfl) ?_
    refine kx_last (q0 := 1) (t0 := 1) hx hb dd_Rw_offer_36 hK hP hD hS kg_5_1 rfl (by omega) (by omega) (fun H locs hP hD hS => ?_)
    have hP : va_P D vwCl [(o, .inr (6, [.int (nI 1), .ref q0, .ref q1, .ref q2, .ref q3])), (q0, .inl (cJ, ln, .inr (.inl (vp_updL ro pl no)))), (q1, .inl (cI, ln, .inl rv)), (q2, .inl (cJ, ln, .inr (.inl rd))), (q3, .inl (cI, ln, .inl rc))] H := kx_cP kz_5_1 hP
    have hD : va_D A [(o, .inr (6, [.int (nI 1), .ref q0, .ref q1, .ref q2, .ref q3])), (q0, .inl (cJ, ln, .inr (.inl (vp_updL ro pl no)))), (q1, .inl (cI, ln, .inl rv)), (q2, .inl (cJ, ln, .inr (.inl rd))), (q3, .inl (cI, ln, .inl rc))] := kx_cD kz_5_1 hD
    refine lv_aload_n hx hb dd_Rw_offer_37 rfl (lv_at hl 0 rfl) ?_
    refine va_get (D := D) (ci := 6) (v := .ref q1) (C := rr_Rw) (T := tt_Rw) (N := 5) hx hb hts hin6 hown hK hP 0 kg_5_0 rfl 2 (by decide) lk3 (fun _ h9 => h9) rfl dd_Rw_offer_38 ?_
    refine lv_iload_n hx hb dd_Rw_offer_41 rfl (lv_at hl 1 rfl) ?_
    refine lv_iload hx hb dd_Rw_offer_42 (lv_at hl 3 rfl) ?_
    refine kx_iast (q0 := 2) (t0 := 0) hx hb dd_Rw_offer_44 hK hP hD hS kg_5_2 rfl (by omega) (by omega) (fun H locs hP hD hS => ?_)
    have hP : va_P D vwCl [(o, .inr (6, [.int (nI 1), .ref q0, .ref q1, .ref q2, .ref q3])), (q0, .inl (cJ, ln, .inr (.inl (vp_updL ro pl no)))), (q1, .inl (cI, ln, .inl (upd rv pl nv))), (q2, .inl (cJ, ln, .inr (.inl rd))), (q3, .inl (cI, ln, .inl rc))] H := kx_cP kz_5_2 hP
    have hD : va_D A [(o, .inr (6, [.int (nI 1), .ref q0, .ref q1, .ref q2, .ref q3])), (q0, .inl (cJ, ln, .inr (.inl (vp_updL ro pl no)))), (q1, .inl (cI, ln, .inl (upd rv pl nv))), (q2, .inl (cJ, ln, .inr (.inl rd))), (q3, .inl (cI, ln, .inl rc))] := kx_cD kz_5_2 hD
    refine lv_aload_n hx hb dd_Rw_offer_45 rfl (lv_at hl 0 rfl) ?_
    refine va_get (D := D) (ci := 6) (v := .ref q2) (C := rr_Rw) (T := tt_Rw) (N := 5) hx hb hts hin6 hown hK hP 0 kg_5_0 rfl 3 (by decide) lk4 (fun _ h9 => h9) rfl dd_Rw_offer_46 ?_
    refine lv_iload_n hx hb dd_Rw_offer_49 rfl (lv_at hl 1 rfl) ?_
    refine lv_lload hx hb dd_Rw_offer_50 (lv_at hl 4 rfl) ?_
    refine kx_last (q0 := 3) (t0 := 1) hx hb dd_Rw_offer_52 hK hP hD hS kg_5_3 rfl (by omega) (by omega) (fun H locs hP hD hS => ?_)
    have hP : va_P D vwCl [(o, .inr (6, [.int (nI 1), .ref q0, .ref q1, .ref q2, .ref q3])), (q0, .inl (cJ, ln, .inr (.inl (vp_updL ro pl no)))), (q1, .inl (cI, ln, .inl (upd rv pl nv))), (q2, .inl (cJ, ln, .inr (.inl (vp_updL rd pl nd)))), (q3, .inl (cI, ln, .inl rc))] H := kx_cP kz_5_3 hP
    have hD : va_D A [(o, .inr (6, [.int (nI 1), .ref q0, .ref q1, .ref q2, .ref q3])), (q0, .inl (cJ, ln, .inr (.inl (vp_updL ro pl no)))), (q1, .inl (cI, ln, .inl (upd rv pl nv))), (q2, .inl (cJ, ln, .inr (.inl (vp_updL rd pl nd)))), (q3, .inl (cI, ln, .inl rc))] := kx_cD kz_5_3 hD
    refine lv_aload_n hx hb dd_Rw_offer_53 rfl (lv_at hl 0 rfl) ?_
    refine va_get (D := D) (ci := 6) (v := .ref q3) (C := rr_Rw) (T := tt_Rw) (N := 5) hx hb hts hin6 hown hK hP 0 kg_5_0 rfl 4 (by decide) lk5 (fun _ h9 => h9) rfl dd_Rw_offer_54 ?_
    refine lv_iload_n hx hb dd_Rw_offer_57 rfl (lv_at hl 1 rfl) ?_
    refine lv_iload hx hb dd_Rw_offer_58 (lv_at hl 5 rfl) ?_
    refine kx_iast (q0 := 4) (t0 := 0) hx hb dd_Rw_offer_60 hK hP hD hS kg_5_4 rfl (by omega) (by omega) (fun H locs hP hD hS => ?_)
    have hP : va_P D vwCl [(o, .inr (6, [.int (nI 1), .ref q0, .ref q1, .ref q2, .ref q3])), (q0, .inl (cJ, ln, .inr (.inl (vp_updL ro pl no)))), (q1, .inl (cI, ln, .inl (upd rv pl nv))), (q2, .inl (cJ, ln, .inr (.inl (vp_updL rd pl nd)))), (q3, .inl (cI, ln, .inl (upd rc pl nc)))] H := kx_cP kz_5_4 hP
    have hD : va_D A [(o, .inr (6, [.int (nI 1), .ref q0, .ref q1, .ref q2, .ref q3])), (q0, .inl (cJ, ln, .inr (.inl (vp_updL ro pl no)))), (q1, .inl (cI, ln, .inl (upd rv pl nv))), (q2, .inl (cJ, ln, .inr (.inl (vp_updL rd pl nd)))), (q3, .inl (cI, ln, .inl (upd rc pl nc)))] := kx_cD kz_5_4 hD
    refine lv_iconst (v := nI 1) hx hb dd_Rw_offer_61 (by decide) ?_
    rw [hQ]
    exact kx_zret hx hb hr hlocks hK hN hS dd_Rw_offer_62 (by decide) (nI 1, vp_updL ro pl no, upd rv pl nv, vp_updL rd pl nd, upd rc pl nc) hP hD (by have hye : rc pl = (-1) ∨ pk_bt no (ro pl) nv (rv pl) nd (rd pl) nc (rc pl) := (by first | exact Or.inr c20 | exact Or.inl (Decidable.not_not.mp c5)); exact ⟨kb_t hye, by rw [if_pos hye]; exact ⟨rfl, rfl, rfl, rfl, rfl⟩⟩)
  · skip
    have c5 : ¬ rc pl = (-1) := kb_1.mp c5
    refine lv_aload_n hx hb dd_Rw_offer_8 rfl (lv_at hl 0 rfl) ?_
    refine lv_iload_n hx hb dd_Rw_offer_9 rfl (lv_at hl 1 rfl) ?_
    refine lv_lload_n hx hb dd_Rw_offer_10 rfl (lv_at hl 2 rfl) ?_
    refine lv_iload hx hb dd_Rw_offer_11 (lv_at hl 3 rfl) ?_
    refine lv_lload hx hb dd_Rw_offer_13 (lv_at hl 4 rfl) ?_
    refine lv_iload hx hb dd_Rw_offer_15 (lv_at hl 5 rfl) ?_
    refine kx_calli (wr := []) (va_runV (C := rr_Rw) (As := [.int (nI pl), .long no, .int nv, .long nd, .int nc]) (rest := []) ⟨hx, hb, hml, hown, hts⟩ (ct_Rw_isBetter l D cI cJ cZ H.size o q0 q1 q2 q3 ln an ro rv rd rc pl no nv nd nc (by omega) (by omega)) ⟨(callB_of 5 hts (kx_good kw_665) rfl rfl rfl (hts _ (kx_m kw_51)) (hts _ (kx_m kw_662)) (by decide +kernel) ⟨Nat.le_of_ble_eq_true rfl, Nat.le_of_ble_eq_true rfl⟩), (hts _ (kx_m kw_664)), (hts _ (kx_m kw_10))⟩ (kx_preV (ci := 6) (q0 := 0) hK hN (hP.sub [0, 1, 2, 3, 4] kt_5_0_1_2_3_4) (hD.sub [0, 1, 2, 3, 4] (by decide) ks_5_0_1_2_3_4) rfl kg_5_0) rfl rfl hl.1 rfl (lv_room (Nat.le_of_ble_eq_true rfl)) dd_Rw_offer_17 ⟨Nat.le_of_ble_eq_true rfl, Nat.le_of_ble_eq_true rfl⟩) hP hD hS hA [0, 1, 2, 3, 4] [] ks_5_0_1_2_3_4 ks_5_ (by decide) (by decide) (fun r17 u17 H locs hw17 hP hD hS => ?_)
    have hP : va_P D vwCl [(o, .inr (6, [.int an, .ref q0, .ref q1, .ref q2, .ref q3])), (q0, .inl (cJ, ln, .inr (.inl ro))), (q1, .inl (cI, ln, .inl rv)), (q2, .inl (cJ, ln, .inr (.inl rd))), (q3, .inl (cI, ln, .inl rc))] H := hP
    have hD : va_D A [(o, .inr (6, [.int an, .ref q0, .ref q1, .ref q2, .ref q3])), (q0, .inl (cJ, ln, .inr (.inl ro))), (q1, .inl (cI, ln, .inl rv)), (q2, .inl (cJ, ln, .inr (.inl rd))), (q3, .inl (cI, ln, .inl rc))] := hD
    have hw17 : r17 = kb_p (pk_bt no (ro pl) nv (rv pl) nd (rd pl) nc (rc pl)) := hw17
    subst hw17
    refine lv_if_ne (tgt := 25) hx hb dd_Rw_offer_20 (by decide) (fun c20 => ?_) (fun c20 => ?_)
    · skip
      have c20 : pk_bt no (ro pl) nv (rv pl) nd (rd pl) nc (rc pl) := kb_1.mp c20
      refine lv_aload_n hx hb dd_Rw_offer_25 rfl (lv_at hl 0 rfl) ?_
      refine lv_iconst (v := nI 1) hx hb dd_Rw_offer_26 (by decide) ?_
      refine va_put (D := D) (ci := 6) (v := .int (nI 1)) (ty := .boolean) (C := rr_Rw) (T := tt_Rw) (N := 5) hx hb hts hin6 ft_Rw ft_Rw_ok nn_Rw hown hK hP hD hS 0 kg_5_0 rfl 0 (by decide) lk0 (fun _ h9 => h9) rfl (by decide +kernel) rfl rfl (Nat.le_of_ble_eq_true rfl) dd_Rw_offer_27 (fun H locs hP hD hS => ?_)
      have hP : va_P D vwCl [(o, .inr (6, [.int (nI 1), .ref q0, .ref q1, .ref q2, .ref q3])), (q0, .inl (cJ, ln, .inr (.inl ro))), (q1, .inl (cI, ln, .inl rv)), (q2, .inl (cJ, ln, .inr (.inl rd))), (q3, .inl (cI, ln, .inl rc))] H := kx_cP kz_5_0 hP
      have hD : va_D A [(o, .inr (6, [.int (nI 1), .ref q0, .ref q1, .ref q2, .ref q3])), (q0, .inl (cJ, ln, .inr (.inl ro))), (q1, .inl (cI, ln, .inl rv)), (q2, .inl (cJ, ln, .inr (.inl rd))), (q3, .inl (cI, ln, .inl rc))] := kx_cD kz_5_0 hD
      refine lv_aload_n hx hb dd_Rw_offer_30 rfl (lv_at hl 0 rfl) ?_
      refine va_get (D := D) (ci := 6) (v := .ref q0) (C := rr_Rw) (T := tt_Rw) (N := 5) hx hb hts hin6 hown hK hP 0 kg_5_0 rfl 1 (by decide) lk2 (fun _ h9 => h9) rfl dd_Rw_offer_31 ?_
      refine lv_iload_n hx hb dd_Rw_offer_34 rfl (lv_at hl 1 rfl) ?_
      refine lv_lload_n hx hb dd_Rw_offer_35 rfl (lv_at hl 2 rfl) ?_
      refine kx_last (q0 := 1) (t0 := 1) hx hb dd_Rw_offer_36 hK hP hD hS kg_5_1 rfl (by omega) (by omega) (fun H locs hP hD hS => ?_)
      have hP : va_P D vwCl [(o, .inr (6, [.int (nI 1), .ref q0, .ref q1, .ref q2, .ref q3])), (q0, .inl (cJ, ln, .inr (.inl (vp_updL ro pl no)))), (q1, .inl (cI, ln, .inl rv)), (q2, .inl (cJ, ln, .inr (.inl rd))), (q3, .inl (cI, ln, .inl rc))] H := kx_cP kz_5_1 hP
      have hD : va_D A [(o, .inr (6, [.int (nI 1), .ref q0, .ref q1, .ref q2, .ref q3])), (q0, .inl (cJ, ln, .inr (.inl (vp_updL ro pl no)))), (q1, .inl (cI, ln, .inl rv)), (q2, .inl (cJ, ln, .inr (.inl rd))), (q3, .inl (cI, ln, .inl rc))] := kx_cD kz_5_1 hD
      refine lv_aload_n hx hb dd_Rw_offer_37 rfl (lv_at hl 0 rfl) ?_
      refine va_get (D := D) (ci := 6) (v := .ref q1) (C := rr_Rw) (T := tt_Rw) (N := 5) hx hb hts hin6 hown hK hP 0 kg_5_0 rfl 2 (by decide) lk3 (fun _ h9 => h9) rfl dd_Rw_offer_38 ?_
      refine lv_iload_n hx hb dd_Rw_offer_41 rfl (lv_at hl 1 rfl) ?_
      refine lv_iload hx hb dd_Rw_offer_42 (lv_at hl 3 rfl) ?_
      refine kx_iast (q0 := 2) (t0 := 0) hx hb dd_Rw_offer_44 hK hP hD hS kg_5_2 rfl (by omega) (by omega) (fun H locs hP hD hS => ?_)
      have hP : va_P D vwCl [(o, .inr (6, [.int (nI 1), .ref q0, .ref q1, .ref q2, .ref q3])), (q0, .inl (cJ, ln, .inr (.inl (vp_updL ro pl no)))), (q1, .inl (cI, ln, .inl (upd rv pl nv))), (q2, .inl (cJ, ln, .inr (.inl rd))), (q3, .inl (cI, ln, .inl rc))] H := kx_cP kz_5_2 hP
      have hD : va_D A [(o, .inr (6, [.int (nI 1), .ref q0, .ref q1, .ref q2, .ref q3])), (q0, .inl (cJ, ln, .inr (.inl (vp_updL ro pl no)))), (q1, .inl (cI, ln, .inl (upd rv pl nv))), (q2, .inl (cJ, ln, .inr (.inl rd))), (q3, .inl (cI, ln, .inl rc))] := kx_cD kz_5_2 hD
      refine lv_aload_n hx hb dd_Rw_offer_45 rfl (lv_at hl 0 rfl) ?_
      refine va_get (D := D) (ci := 6) (v := .ref q2) (C := rr_Rw) (T := tt_Rw) (N := 5) hx hb hts hin6 hown hK hP 0 kg_5_0 rfl 3 (by decide) lk4 (fun _ h9 => h9) rfl dd_Rw_offer_46 ?_
      refine lv_iload_n hx hb dd_Rw_offer_49 rfl (lv_at hl 1 rfl) ?_
      refine lv_lload hx hb dd_Rw_offer_50 (lv_at hl 4 rfl) ?_
      refine kx_last (q0 := 3) (t0 := 1) hx hb dd_Rw_offer_52 hK hP hD hS kg_5_3 rfl (by omega) (by omega) (fun H locs hP hD hS => ?_)
      have hP : va_P D vwCl [(o, .inr (6, [.int (nI 1), .ref q0, .ref q1, .ref q2, .ref q3])), (q0, .inl (cJ, ln, .inr (.inl (vp_updL ro pl no)))), (q1, .inl (cI, ln, .inl (upd rv pl nv))), (q2, .inl (cJ, ln, .inr (.inl (vp_updL rd pl nd)))), (q3, .inl (cI, ln, .inl rc))] H := kx_cP kz_5_3 hP
      have hD : va_D A [(o, .inr (6, [.int (nI 1), .ref q0, .ref q1, .ref q2, .ref q3])), (q0, .inl (cJ, ln, .inr (.inl (vp_updL ro pl no)))), (q1, .inl (cI, ln, .inl (upd rv pl nv))), (q2, .inl (cJ, ln, .inr (.inl (vp_updL rd pl nd)))), (q3, .inl (cI, ln, .inl rc))] := kx_cD kz_5_3 hD
      refine lv_aload_n hx hb dd_Rw_offer_53 rfl (lv_at hl 0 rfl) ?_
      refine va_get (D := D) (ci := 6) (v := .ref q3) (C := rr_Rw) (T := tt_Rw) (N := 5) hx hb hts hin6 hown hK hP 0 kg_5_0 rfl 4 (by decide) lk5 (fun _ h9 => h9) rfl dd_Rw_offer_54 ?_
      refine lv_iload_n hx hb dd_Rw_offer_57 rfl (lv_at hl 1 rfl) ?_
      refine lv_iload hx hb dd_Rw_offer_58 (lv_at hl 5 rfl) ?_
      refine kx_iast (q0 := 4) (t0 := 0) hx hb dd_Rw_offer_60 hK hP hD hS kg_5_4 rfl (by omega) (by omega) (fun H locs hP hD hS => ?_)
      have hP : va_P D vwCl [(o, .inr (6, [.int (nI 1), .ref q0, .ref q1, .ref q2, .ref q3])), (q0, .inl (cJ, ln, .inr (.inl (vp_updL ro pl no)))), (q1, .inl (cI, ln, .inl (upd rv pl nv))), (q2, .inl (cJ, ln, .inr (.inl (vp_updL rd pl nd)))), (q3, .inl (cI, ln, .inl (upd rc pl nc)))] H := kx_cP kz_5_4 hP
      have hD : va_D A [(o, .inr (6, [.int (nI 1), .ref q0, .ref q1, .ref q2, .ref q3])), (q0, .inl (cJ, ln, .inr (.inl (vp_updL ro pl no)))), (q1, .inl (cI, ln, .inl (upd rv pl nv))), (q2, .inl (cJ, ln, .inr (.inl (vp_updL rd pl nd)))), (q3, .inl (cI, ln, .inl (upd rc pl nc)))] := kx_cD kz_5_4 hD
      refine lv_iconst (v := nI 1) hx hb dd_Rw_offer_61 (by decide) ?_
      rw [hQ]
      exact kx_zret hx hb hr hlocks hK hN hS dd_Rw_offer_62 (by decide) (nI 1, vp_updL ro pl no, upd rv pl nv, vp_updL rd pl nd, upd rc pl nc) hP hD (by have hye : rc pl = (-1) ∨ pk_bt no (ro pl) nv (rv pl) nd (rd pl) nc (rc pl) := (by first | exact Or.inr c20 | exact Or.inl (Decidable.not_not.mp c5)); exact ⟨kb_t hye, by rw [if_pos hye]; exact ⟨rfl, rfl, rfl, rfl, rfl⟩⟩)
    · skip
      have c20 : ¬ (pk_bt no (ro pl) nv (rv pl) nd (rd pl) nc (rc pl)) := kb_0.mp c20
      refine lv_iconst (v := nI 0) hx hb dd_Rw_offer_23 (by decide) ?_
      rw [hQ]
      exact kx_zret hx hb hr hlocks hK hN hS dd_Rw_offer_24 (by decide) (an, ro, rv, rd, rc) hP hD (by have hno : ¬ (rc pl = (-1) ∨ pk_bt no (ro pl) nv (rv pl) nd (rd pl) nc (rc pl)) := (fun q => q.elim c5 c20); exact ⟨kb_f hno, by rw [if_neg hno]; exact ⟨rfl, rfl, rfl, rfl, rfl⟩⟩)

theorem dd_Ft_set_0 : decode bb_Ft_set 0 = .ok (.aload_n 0, 1) := by decide +kernel
theorem dd_Ft_set_1 : decode bb_Ft_set 1 = .ok (.iload_n 1, 1) := by decide +kernel
theorem dd_Ft_set_2 : decode bb_Ft_set 2 = .ok (.putfield 95, 3) := by decide +kernel
theorem dd_Ft_set_5 : decode bb_Ft_set 5 = .ok (.aload_n 0, 1) := by decide +kernel
theorem dd_Ft_set_6 : decode bb_Ft_set 6 = .ok (.iload_n 2, 1) := by decide +kernel
theorem dd_Ft_set_7 : decode bb_Ft_set 7 = .ok (.putfield 99, 3) := by decide +kernel
theorem dd_Ft_set_10 : decode bb_Ft_set 10 = .ok (.aload_n 0, 1) := by decide +kernel
theorem dd_Ft_set_11 : decode bb_Ft_set 11 = .ok (.lload_n 3, 1) := by decide +kernel
theorem dd_Ft_set_12 : decode bb_Ft_set 12 = .ok (.putfield 102, 3) := by decide +kernel
theorem dd_Ft_set_15 : decode bb_Ft_set 15 = .ok (.return_, 1) := by decide +kernel

set_option maxHeartbeats 4000000 in
set_option maxRecDepth 100000 in
theorem ct_Ft_set (l : Launch) (D : va_G) (cI cJ cZ : ClassId) (sz : Nat) (f : Nat) (fb : Int32) (fc : Nat) (fo : Int64) (b2 : Int32) (c2 : Nat) (o2 : Int64) : kx_Mv l yy_Ft_set ww_Ft_set ({ frames := 0, cells := 0, slots := 0, locals := 0 }) D vwCl (kx_ty cI cJ cZ) [.ref f, .int b2, .int (nI c2), .long o2] [(f, .inr (3, [.int fb, .int (nI fc), .long fo]))] sz (fun (u : Unit) => True) (fun (u : Unit) => [(f, .inr (3, [.int b2, .int (nI c2), .long o2]))]) 0 0 := by
  refine kx_startv (by decide) rfl (Nat.le_of_ble_eq_true rfl) ?_
  intro p e s m below meth c A ls hx hb hr hml hts hown hlocks hin hP hK hN hD hA hS hl
  have hl : lv_has ls 5 [(0, .ref f), (1, .int b2), (2, .int (nI c2)), (3, .long o2)] := hl
  have hown : s.vm.findClass rr_Ft = some m.cls := hown
  have lk0 := hts _ (kx_m kw_232)
  have hin3 : ∀ w ∈ u_ws rr_Ft tt_Ft 3, w ∈ ww_Ft_set := fun w h => kx_m (kf_Ft w h)
  have lk2 := hts _ (kx_m kw_235)
  have lk3 := hts _ (kx_m kw_238)
  obtain ⟨H, hH⟩ : ∃ H, H = s.heap := ⟨_, rfl⟩
  obtain ⟨locs, hlocs⟩ : ∃ z : List Loc, z = [] := ⟨_, rfl⟩
  have hP : va_P D vwCl [(f, .inr (3, [.int fb, .int (nI fc), .long fo]))] H := by rw [hH]; exact hP
  have hS : va_S A s.heap H locs := by rw [hH, hlocs]; exact hS
  refine kx_gen hH hlocs ?_
  clear hH hlocs
  refine kx_nameQ (fun Q hQ => ?_)
  refine lv_aload_n hx hb dd_Ft_set_0 rfl (lv_at hl 0 rfl) ?_
  refine lv_iload_n hx hb dd_Ft_set_1 rfl (lv_at hl 1 rfl) ?_
  refine va_put (D := D) (ci := 3) (v := .int b2) (ty := .int) (C := rr_Ft) (T := tt_Ft) (N := 3) hx hb hts hin3 ft_Ft ft_Ft_ok nn_Ft hown hK hP hD hS 0 kg_1_0 rfl 0 (by decide) lk0 (fun _ h9 => h9) rfl (by decide +kernel) rfl rfl (Nat.le_of_ble_eq_true rfl) dd_Ft_set_2 (fun H locs hP hD hS => ?_)
  have hP : va_P D vwCl [(f, .inr (3, [.int b2, .int (nI fc), .long fo]))] H := kx_cP kz_1_0 hP
  have hD : va_D A [(f, .inr (3, [.int b2, .int (nI fc), .long fo]))] := kx_cD kz_1_0 hD
  refine lv_aload_n hx hb dd_Ft_set_5 rfl (lv_at hl 0 rfl) ?_
  refine lv_iload_n hx hb dd_Ft_set_6 rfl (lv_at hl 2 rfl) ?_
  refine va_put (D := D) (ci := 3) (v := .int (nI c2)) (ty := .int) (C := rr_Ft) (T := tt_Ft) (N := 3) hx hb hts hin3 ft_Ft ft_Ft_ok nn_Ft hown hK hP hD hS 0 kg_1_0 rfl 1 (by decide) lk2 (fun _ h9 => h9) rfl (by decide +kernel) rfl rfl (Nat.le_of_ble_eq_true rfl) dd_Ft_set_7 (fun H locs hP hD hS => ?_)
  have hP : va_P D vwCl [(f, .inr (3, [.int b2, .int (nI c2), .long fo]))] H := kx_cP kz_1_0 hP
  have hD : va_D A [(f, .inr (3, [.int b2, .int (nI c2), .long fo]))] := kx_cD kz_1_0 hD
  refine lv_aload_n hx hb dd_Ft_set_10 rfl (lv_at hl 0 rfl) ?_
  refine lv_lload_n hx hb dd_Ft_set_11 rfl (lv_at hl 3 rfl) ?_
  refine va_put (D := D) (ci := 3) (v := .long o2) (ty := .long) (C := rr_Ft) (T := tt_Ft) (N := 3) hx hb hts hin3 ft_Ft ft_Ft_ok nn_Ft hown hK hP hD hS 0 kg_1_0 rfl 2 (by decide) lk3 (fun _ h9 => h9) rfl (by decide +kernel) rfl rfl (Nat.le_of_ble_eq_true rfl) dd_Ft_set_12 (fun H locs hP hD hS => ?_)
  have hP : va_P D vwCl [(f, .inr (3, [.int b2, .int (nI c2), .long o2]))] H := kx_cP kz_1_0 hP
  have hD : va_D A [(f, .inr (3, [.int b2, .int (nI c2), .long o2]))] := kx_cD kz_1_0 hD
  rw [hQ]
  exact kx_vret hx hb hr hlocks hK hN hS dd_Ft_set_15 () hP hD trivial

theorem dd_Ft_badnessOf_0 : decode bb_Ft_badnessOf 0 = .ok (.lload_n 0, 1) := by decide +kernel
theorem dd_Ft_badnessOf_1 : decode bb_Ft_badnessOf 1 = .ok (.lconst 0, 1) := by decide +kernel
theorem dd_Ft_badnessOf_2 : decode bb_Ft_badnessOf 2 = .ok (.lcmp, 1) := by decide +kernel
theorem dd_Ft_badnessOf_3 : decode bb_Ft_badnessOf 3 = .ok (.ifCond .ne (5), 3) := by decide +kernel
theorem dd_Ft_badnessOf_6 : decode bb_Ft_badnessOf 6 = .ok (.iconst 0, 1) := by decide +kernel
theorem dd_Ft_badnessOf_7 : decode bb_Ft_badnessOf 7 = .ok (.ireturn, 1) := by decide +kernel
theorem dd_Ft_badnessOf_8 : decode bb_Ft_badnessOf 8 = .ok (.lload_n 2, 1) := by decide +kernel
theorem dd_Ft_badnessOf_9 : decode bb_Ft_badnessOf 9 = .ok (.lconst 0, 1) := by decide +kernel
theorem dd_Ft_badnessOf_10 : decode bb_Ft_badnessOf 10 = .ok (.lcmp, 1) := by decide +kernel
theorem dd_Ft_badnessOf_11 : decode bb_Ft_badnessOf 11 = .ok (.ifCond .ne (7), 3) := by decide +kernel
theorem dd_Ft_badnessOf_14 : decode bb_Ft_badnessOf 14 = .ok (.sipush (10000), 3) := by decide +kernel
theorem dd_Ft_badnessOf_17 : decode bb_Ft_badnessOf 17 = .ok (.ireturn, 1) := by decide +kernel
theorem dd_Ft_badnessOf_18 : decode bb_Ft_badnessOf 18 = .ok (.ldc2_w 105, 3) := by decide +kernel
theorem dd_Ft_badnessOf_21 : decode bb_Ft_badnessOf 21 = .ok (.lload_n 0, 1) := by decide +kernel
theorem dd_Ft_badnessOf_22 : decode bb_Ft_badnessOf 22 = .ok (.lmul, 1) := by decide +kernel
theorem dd_Ft_badnessOf_23 : decode bb_Ft_badnessOf 23 = .ok (.lload_n 2, 1) := by decide +kernel
theorem dd_Ft_badnessOf_24 : decode bb_Ft_badnessOf 24 = .ok (.ldiv, 1) := by decide +kernel
theorem dd_Ft_badnessOf_25 : decode bb_Ft_badnessOf 25 = .ok (.lstore 4, 2) := by decide +kernel
theorem dd_Ft_badnessOf_27 : decode bb_Ft_badnessOf 27 = .ok (.lload 4, 2) := by decide +kernel
theorem dd_Ft_badnessOf_29 : decode bb_Ft_badnessOf 29 = .ok (.ldc2_w 107, 3) := by decide +kernel
theorem dd_Ft_badnessOf_32 : decode bb_Ft_badnessOf 32 = .ok (.lcmp, 1) := by decide +kernel
theorem dd_Ft_badnessOf_33 : decode bb_Ft_badnessOf 33 = .ok (.ifCond .le (9), 3) := by decide +kernel
theorem dd_Ft_badnessOf_36 : decode bb_Ft_badnessOf 36 = .ok (.sipush (10000), 3) := by decide +kernel
theorem dd_Ft_badnessOf_39 : decode bb_Ft_badnessOf 39 = .ok (.goto (20), 3) := by decide +kernel
theorem dd_Ft_badnessOf_42 : decode bb_Ft_badnessOf 42 = .ok (.lload 4, 2) := by decide +kernel
theorem dd_Ft_badnessOf_44 : decode bb_Ft_badnessOf 44 = .ok (.lload 4, 2) := by decide +kernel
theorem dd_Ft_badnessOf_46 : decode bb_Ft_badnessOf 46 = .ok (.lmul, 1) := by decide +kernel
theorem dd_Ft_badnessOf_47 : decode bb_Ft_badnessOf 47 = .ok (.lload 4, 2) := by decide +kernel
theorem dd_Ft_badnessOf_49 : decode bb_Ft_badnessOf 49 = .ok (.lmul, 1) := by decide +kernel
theorem dd_Ft_badnessOf_50 : decode bb_Ft_badnessOf 50 = .ok (.ldc2_w 109, 3) := by decide +kernel
theorem dd_Ft_badnessOf_53 : decode bb_Ft_badnessOf 53 = .ok (.ladd, 1) := by decide +kernel
theorem dd_Ft_badnessOf_54 : decode bb_Ft_badnessOf 54 = .ok (.ldc2_w 111, 3) := by decide +kernel
theorem dd_Ft_badnessOf_57 : decode bb_Ft_badnessOf 57 = .ok (.ldiv, 1) := by decide +kernel
theorem dd_Ft_badnessOf_58 : decode bb_Ft_badnessOf 58 = .ok (.l2i, 1) := by decide +kernel
theorem dd_Ft_badnessOf_59 : decode bb_Ft_badnessOf 59 = .ok (.ireturn, 1) := by decide +kernel

set_option maxHeartbeats 4000000 in
set_option maxRecDepth 100000 in
theorem ct_Ft_badnessOf (l : Launch) (D : va_G) (cI cJ cZ : ClassId) (sz : Nat) (t : Int64) (s2 : Int64) : kx_Mi l yy_Ft_badnessOf ww_Ft_badnessOf ({ frames := 0, cells := 0, slots := 0, locals := 0 }) D vwCl (kx_ty cI cJ cZ) [.long t, .long s2] [] sz (fun (r : Int32) (u : Unit) => r = pm_bad t s2) (fun (u : Unit) => []) 0 0 := by
  refine kx_starti (by decide) rfl (Nat.le_of_ble_eq_true rfl) ?_
  intro p e s m below meth c A ls hx hb hr hml hts hown hlocks hin hP hK hN hD hA hS hl
  have hl : lv_has ls 6 [(0, .long t), (2, .long s2)] := hl
  have hown : s.vm.findClass rr_Ft = some m.cls := hown
  have lk0 := hts _ (kx_m kw_705)
  have lk1 := hts _ (kx_m kw_706)
  have lk2 := hts _ (kx_m kw_707)
  have lk3 := hts _ (kx_m kw_708)
  obtain ⟨H, hH⟩ : ∃ H, H = s.heap := ⟨_, rfl⟩
  obtain ⟨locs, hlocs⟩ : ∃ z : List Loc, z = [] := ⟨_, rfl⟩
  have hP : va_P D vwCl [] H := by rw [hH]; exact hP
  have hS : va_S A s.heap H locs := by rw [hH, hlocs]; exact hS
  refine kx_gen hH hlocs ?_
  clear hH hlocs
  refine kx_nameQ (fun Q hQ => ?_)
  refine lv_lload_n hx hb dd_Ft_badnessOf_0 rfl (lv_at hl 0 rfl) ?_
  refine lv_lconst (v := 0) hx hb dd_Ft_badnessOf_1 (by decide) ?_
  refine W.lcmp hx hb dd_Ft_badnessOf_2 ?_
  refine lv_if_ne (tgt := 8) hx hb dd_Ft_badnessOf_3 (by decide) (fun c3 => ?_) (fun c3 => ?_)
  · skip
    have c3 : ¬ (t = (0 : Int64)) := fun h => c3 ((lg_cmp_eq _ _).mpr h)
    refine lv_lload_n hx hb dd_Ft_badnessOf_8 rfl (lv_at hl 1 rfl) ?_
    refine lv_lconst (v := 0) hx hb dd_Ft_badnessOf_9 (by decide) ?_
    refine W.lcmp hx hb dd_Ft_badnessOf_10 ?_
    refine lv_if_ne (tgt := 18) hx hb dd_Ft_badnessOf_11 (by decide) (fun c11 => ?_) (fun c11 => ?_)
    · skip
      have c11 : ¬ (s2 = (0 : Int64)) := fun h => c11 ((lg_cmp_eq _ _).mpr h)
      refine lv_ldc2 (v := (297)) hx hb hown lk0 dd_Ft_badnessOf_18 ?_
      refine lv_lload_n hx hb dd_Ft_badnessOf_21 rfl (lv_at hl 0 rfl) ?_
      refine lv_lmul hx hb dd_Ft_badnessOf_22 ?_
      refine lv_lload_n hx hb dd_Ft_badnessOf_23 rfl (lv_at hl 1 rfl) ?_
      refine lv_ldiv hx hb dd_Ft_badnessOf_24 (by first | assumption | decide) ?_
      refine lv_lstore (lv' := [(4, .long (((297 : Int64) * t) / s2)), (0, .long t), (2, .long s2)]) hx hb dd_Ft_badnessOf_25 hl (by decide) rfl (fun ls hl => ?_)
      refine lv_lload hx hb dd_Ft_badnessOf_27 (lv_at hl 0 rfl) ?_
      refine lv_ldc2 (v := (1290)) hx hb hown lk1 dd_Ft_badnessOf_29 ?_
      refine W.lcmp hx hb dd_Ft_badnessOf_32 ?_
      refine lv_if_le (tgt := 42) hx hb dd_Ft_badnessOf_33 (by decide) (fun c33 => ?_) (fun c33 => ?_)
      · skip
        have c33 := (lg_cmp_le _ _).mp c33
        refine lv_lload hx hb dd_Ft_badnessOf_42 (lv_at hl 0 rfl) ?_
        refine lv_lload hx hb dd_Ft_badnessOf_44 (lv_at hl 0 rfl) ?_
        refine lv_lmul hx hb dd_Ft_badnessOf_46 ?_
        refine lv_lload hx hb dd_Ft_badnessOf_47 (lv_at hl 0 rfl) ?_
        refine lv_lmul hx hb dd_Ft_badnessOf_49 ?_
        refine lv_ldc2 (v := (131072)) hx hb hown lk2 dd_Ft_badnessOf_50 ?_
        refine lv_ladd hx hb dd_Ft_badnessOf_53 ?_
        refine lv_ldc2 (v := (262144)) hx hb hown lk3 dd_Ft_badnessOf_54 ?_
        refine lv_ldiv hx hb dd_Ft_badnessOf_57 (by first | assumption | decide) ?_
        refine lv_l2i hx hb dd_Ft_badnessOf_58 rfl ?_
        rw [hQ]
        exact kx_iret hx hb hr hlocks hK hN hS dd_Ft_badnessOf_59 () hP hD (by simp only [pm_bad, c3, c11, c33, if_true, if_false])
      · skip
        have c33 : ¬ ((((297 : Int64) * t) / s2) ≤ (1290 : Int64)) := fun h => c33 ((lg_cmp_le _ _).mpr h)
        refine lv_sipush (v := nI 10000) hx hb dd_Ft_badnessOf_36 (by decide) ?_
        refine lv_goto (tgt := 59) hx hb dd_Ft_badnessOf_39 (by decide) ?_
        rw [hQ]
        exact kx_iret hx hb hr hlocks hK hN hS dd_Ft_badnessOf_59 () hP hD (by simp only [pm_bad, c3, c11, c33, if_true, if_false])
    · skip
      have c11 := (lg_cmp_eq _ _).mp c11
      refine lv_sipush (v := nI 10000) hx hb dd_Ft_badnessOf_14 (by decide) ?_
      rw [hQ]
      exact kx_iret hx hb hr hlocks hK hN hS dd_Ft_badnessOf_17 () hP hD (by simp only [pm_bad, c3, c11, if_true, if_false])
  · skip
    have c3 := (lg_cmp_eq _ _).mp c3
    refine lv_iconst (v := nI 0) hx hb dd_Ft_badnessOf_6 (by decide) ?_
    rw [hQ]
    exact kx_iret hx hb hr hlocks hK hN hS dd_Ft_badnessOf_7 () hP hD (by simp only [pm_bad, c3, if_true, if_false])

theorem dd_Ft_shrinkBy_0 : decode bb_Ft_shrinkBy 0 = .ok (.lload_n 3, 1) := by decide +kernel
theorem dd_Ft_shrinkBy_1 : decode bb_Ft_shrinkBy 1 = .ok (.lload_n 1, 1) := by decide +kernel
theorem dd_Ft_shrinkBy_2 : decode bb_Ft_shrinkBy 2 = .ok (.lcmp, 1) := by decide +kernel
theorem dd_Ft_shrinkBy_3 : decode bb_Ft_shrinkBy 3 = .ok (.ifCond .ge (15), 3) := by decide +kernel
theorem dd_Ft_shrinkBy_6 : decode bb_Ft_shrinkBy 6 = .ok (.aload_n 0, 1) := by decide +kernel
theorem dd_Ft_shrinkBy_7 : decode bb_Ft_shrinkBy 7 = .ok (.sipush (10000), 3) := by decide +kernel
theorem dd_Ft_shrinkBy_10 : decode bb_Ft_shrinkBy 10 = .ok (.iconst 3, 1) := by decide +kernel
theorem dd_Ft_shrinkBy_11 : decode bb_Ft_shrinkBy 11 = .ok (.lload_n 1, 1) := by decide +kernel
theorem dd_Ft_shrinkBy_12 : decode bb_Ft_shrinkBy 12 = .ok (.lload_n 3, 1) := by decide +kernel
theorem dd_Ft_shrinkBy_13 : decode bb_Ft_shrinkBy 13 = .ok (.lsub, 1) := by decide +kernel
theorem dd_Ft_shrinkBy_14 : decode bb_Ft_shrinkBy 14 = .ok (.invokevirtual 79, 3) := by decide +kernel
theorem dd_Ft_shrinkBy_17 : decode bb_Ft_shrinkBy 17 = .ok (.return_, 1) := by decide +kernel
theorem dd_Ft_shrinkBy_18 : decode bb_Ft_shrinkBy 18 = .ok (.lload_n 1, 1) := by decide +kernel
theorem dd_Ft_shrinkBy_19 : decode bb_Ft_shrinkBy 19 = .ok (.lload_n 3, 1) := by decide +kernel
theorem dd_Ft_shrinkBy_20 : decode bb_Ft_shrinkBy 20 = .ok (.invokestatic 91, 3) := by decide +kernel
theorem dd_Ft_shrinkBy_23 : decode bb_Ft_shrinkBy 23 = .ok (.istore 5, 2) := by decide +kernel
theorem dd_Ft_shrinkBy_25 : decode bb_Ft_shrinkBy 25 = .ok (.aload_n 0, 1) := by decide +kernel
theorem dd_Ft_shrinkBy_26 : decode bb_Ft_shrinkBy 26 = .ok (.iload 5, 2) := by decide +kernel
theorem dd_Ft_shrinkBy_28 : decode bb_Ft_shrinkBy 28 = .ok (.iload 5, 2) := by decide +kernel
theorem dd_Ft_shrinkBy_30 : decode bb_Ft_shrinkBy 30 = .ok (.bipush (12), 2) := by decide +kernel
theorem dd_Ft_shrinkBy_32 : decode bb_Ft_shrinkBy 32 = .ok (.if_icmp .le (7), 3) := by decide +kernel
theorem dd_Ft_shrinkBy_35 : decode bb_Ft_shrinkBy 35 = .ok (.iconst 3, 1) := by decide +kernel
theorem dd_Ft_shrinkBy_36 : decode bb_Ft_shrinkBy 36 = .ok (.goto (4), 3) := by decide +kernel
theorem dd_Ft_shrinkBy_39 : decode bb_Ft_shrinkBy 39 = .ok (.iconst 2, 1) := by decide +kernel
theorem dd_Ft_shrinkBy_40 : decode bb_Ft_shrinkBy 40 = .ok (.lconst 0, 1) := by decide +kernel
theorem dd_Ft_shrinkBy_41 : decode bb_Ft_shrinkBy 41 = .ok (.invokevirtual 79, 3) := by decide +kernel
theorem dd_Ft_shrinkBy_44 : decode bb_Ft_shrinkBy 44 = .ok (.return_, 1) := by decide +kernel

set_option maxHeartbeats 4000000 in
set_option maxRecDepth 100000 in
theorem ct_Ft_shrinkBy (l : Launch) (D : va_G) (cI cJ cZ : ClassId) (sz : Nat) (f : Nat) (fb : Int32) (fc : Nat) (fo : Int64) (wt : Int64) (sh : Int64) : kx_Mv l yy_Ft_shrinkBy ww_Ft_shrinkBy ({ frames := 1, cells := 0, slots := 0, locals := 25 }) D vwCl (kx_ty cI cJ cZ) [.ref f, .long wt, .long sh] [(f, .inr (3, [.int fb, .int (nI fc), .long fo]))] sz (fun (u : Int32 × Nat × Int64) => u.1 = (if wt ≤ sh then pm_bad wt sh else nI 10000) ∧ u.2.1 = (if wt ≤ sh then pm_c2 (pm_bad wt sh) else 3) ∧ u.2.2 = (if wt ≤ sh then 0 else wt - sh)) (fun (u : Int32 × Nat × Int64) => [(f, .inr (3, [.int u.1, .int (nI u.2.1), .long u.2.2]))]) 0 0 := by
  refine kx_startv (by decide) rfl (Nat.le_of_ble_eq_true rfl) ?_
  intro p e s m below meth c A ls hx hb hr hml hts hown hlocks hin hP hK hN hD hA hS hl
  have hl : lv_has ls 6 [(0, .ref f), (1, .long wt), (3, .long sh)] := hl
  have hown : s.vm.findClass rr_Ft = some m.cls := hown
  obtain ⟨H, hH⟩ : ∃ H, H = s.heap := ⟨_, rfl⟩
  obtain ⟨locs, hlocs⟩ : ∃ z : List Loc, z = [] := ⟨_, rfl⟩
  have hP : va_P D vwCl [(f, .inr (3, [.int fb, .int (nI fc), .long fo]))] H := by rw [hH]; exact hP
  have hS : va_S A s.heap H locs := by rw [hH, hlocs]; exact hS
  refine kx_gen hH hlocs ?_
  clear hH hlocs
  refine kx_nameQ (fun Q hQ => ?_)
  refine lv_lload_n hx hb dd_Ft_shrinkBy_0 rfl (lv_at hl 2 rfl) ?_
  refine lv_lload_n hx hb dd_Ft_shrinkBy_1 rfl (lv_at hl 1 rfl) ?_
  refine W.lcmp hx hb dd_Ft_shrinkBy_2 ?_
  refine lv_if_ge (tgt := 18) hx hb dd_Ft_shrinkBy_3 (by decide) (fun c3 => ?_) (fun c3 => ?_)
  · skip
    have c3 := (lg_cmp_ge _ _).mp c3
    refine lv_lload_n hx hb dd_Ft_shrinkBy_18 rfl (lv_at hl 1 rfl) ?_
    refine lv_lload_n hx hb dd_Ft_shrinkBy_19 rfl (lv_at hl 2 rfl) ?_
    refine kx_calli (wr := [(f, .inr (3, [.int fb, .int (nI fc), .long fo]))]) (va_runS (As := [.long wt, .long sh]) (rest := []) ⟨hx, hb, hml, hown, hts⟩ (ct_Ft_badnessOf l D cI cJ cZ H.size wt sh) ⟨(callB_of 2 hts (kx_good kw_704) rfl rfl rfl (hts _ (kx_m kw_50)) (hts _ (kx_m kw_702)) (by decide +kernel) ⟨Nat.le_of_ble_eq_true rfl, Nat.le_of_ble_eq_true rfl⟩), (hts _ (kx_m kw_703))⟩ (kx_preS hK hN (hP.sub [] kt_1_) (hD.sub [] (by decide) ks_1_)) rfl rfl hl.1 rfl (lv_room (Nat.le_of_ble_eq_true rfl)) dd_Ft_shrinkBy_20 ⟨Nat.le_of_ble_eq_true rfl, Nat.le_of_ble_eq_true rfl⟩) hP hD hS hA [] [0] ks_1_ ks_1_0 (by decide) (by decide) (fun r20 u20 H locs hw20 hP hD hS => ?_)
    have hP : va_P D vwCl [(f, .inr (3, [.int fb, .int (nI fc), .long fo]))] H := hP
    have hD : va_D A [(f, .inr (3, [.int fb, .int (nI fc), .long fo]))] := hD
    have hw20 : r20 = pm_bad wt sh := hw20
    subst hw20
    refine lv_istore (lv' := [(5, .int (pm_bad wt sh)), (0, .ref f), (1, .long wt), (3, .long sh)]) hx hb dd_Ft_shrinkBy_23 hl (by decide) rfl (fun ls hl => ?_)
    refine lv_aload_n hx hb dd_Ft_shrinkBy_25 rfl (lv_at hl 1 rfl) ?_
    refine lv_iload hx hb dd_Ft_shrinkBy_26 (lv_at hl 0 rfl) ?_
    refine lv_iload hx hb dd_Ft_shrinkBy_28 (lv_at hl 0 rfl) ?_
    refine lv_bipush (v := nI 12) hx hb dd_Ft_shrinkBy_30 (by decide) ?_
    refine kx_joini (D := D) (cl := vwCl) (A := A) (ws := [(f, .inr (3, [.int fb, .int (nI fc), .long fo]))]) (Y := 40) (ls1 := ls) (st1 := [.int (pm_bad wt sh), .ref f]) (if (pm_bad wt sh) ≤ (nI 12) then (nI 2) else (nI 3)) (fun v40 H locs e_v40 hP hD hS => ?_) (fun K40 => ?_)
    · skip
      obtain rfl : v40 = nI (pm_c2 (pm_bad wt sh)) := by rw [e_v40]; unfold pm_c2; split <;> rfl
      refine lv_lconst (v := 0) hx hb dd_Ft_shrinkBy_40 (by decide) ?_
      refine kx_callv (wr := []) (va_runV (C := rr_Ft) (As := [.int (pm_bad wt sh), .int (nI (pm_c2 (pm_bad wt sh))), .long (0 : Int64)]) (rest := []) ⟨hx, hb, hml, hown, hts⟩ (ct_Ft_set l D cI cJ cZ H.size f fb fc fo (pm_bad wt sh) (pm_c2 (pm_bad wt sh)) (0 : Int64)) ⟨(callB_of 3 hts (kx_good kw_701) rfl rfl rfl (hts _ (kx_m kw_50)) (hts _ (kx_m kw_698)) (by decide +kernel) ⟨Nat.le_of_ble_eq_true rfl, Nat.le_of_ble_eq_true rfl⟩), (hts _ (kx_m kw_700)), (hts _ (kx_m kw_14))⟩ (kx_preV (ci := 3) (q0 := 0) hK hN (hP.sub [0] kt_1_0) (hD.sub [0] (by decide) ks_1_0) rfl kg_1_0) rfl rfl hl.1 rfl (lv_room (Nat.le_of_ble_eq_true rfl)) dd_Ft_shrinkBy_41 ⟨Nat.le_of_ble_eq_true rfl, Nat.le_of_ble_eq_true rfl⟩) hP hD hS hA [0] [] ks_1_0 ks_1_ (by decide) (by decide) (fun u41 H locs hw41 hP hD hS => ?_)
      have hP : va_P D vwCl [(f, .inr (3, [.int (pm_bad wt sh), .int (nI (pm_c2 (pm_bad wt sh))), .long (0 : Int64)]))] H := hP
      have hD : va_D A [(f, .inr (3, [.int (pm_bad wt sh), .int (nI (pm_c2 (pm_bad wt sh))), .long (0 : Int64)]))] := hD
      rw [hQ]
      exact kx_vret hx hb hr hlocks hK hN hS dd_Ft_shrinkBy_44 (pm_bad wt sh, pm_c2 (pm_bad wt sh), (0 : Int64)) hP hD (by rw [if_pos c3, if_pos c3, if_pos c3]; exact ⟨rfl, rfl, rfl⟩)
    · skip
      refine lv_icmp_le (tgt := 39) hx hb dd_Ft_shrinkBy_32 (by decide) (fun c32 => ?_) (fun c32 => ?_)
      · skip
        refine lv_iconst (v := nI 2) hx hb dd_Ft_shrinkBy_39 (by decide) ?_
        exact K40 _ H locs (by rw [if_pos c32]) hP hD hS
      · skip
        refine lv_iconst (v := nI 3) hx hb dd_Ft_shrinkBy_35 (by decide) ?_
        refine lv_goto (tgt := 40) hx hb dd_Ft_shrinkBy_36 (by decide) ?_
        exact K40 _ H locs (by rw [if_neg c32]) hP hD hS
  · skip
    have c3 : ¬ (wt ≤ sh) := fun h => c3 ((lg_cmp_ge _ _).mpr h)
    refine lv_aload_n hx hb dd_Ft_shrinkBy_6 rfl (lv_at hl 0 rfl) ?_
    refine lv_sipush (v := nI 10000) hx hb dd_Ft_shrinkBy_7 (by decide) ?_
    refine lv_iconst (v := nI 3) hx hb dd_Ft_shrinkBy_10 (by decide) ?_
    refine lv_lload_n hx hb dd_Ft_shrinkBy_11 rfl (lv_at hl 1 rfl) ?_
    refine lv_lload_n hx hb dd_Ft_shrinkBy_12 rfl (lv_at hl 2 rfl) ?_
    refine lv_lsub hx hb dd_Ft_shrinkBy_13 ?_
    refine kx_callv (wr := []) (va_runV (C := rr_Ft) (As := [.int (nI 10000), .int (nI 3), .long (wt - sh)]) (rest := []) ⟨hx, hb, hml, hown, hts⟩ (ct_Ft_set l D cI cJ cZ H.size f fb fc fo (nI 10000) 3 (wt - sh)) ⟨(callB_of 3 hts (kx_good kw_701) rfl rfl rfl (hts _ (kx_m kw_50)) (hts _ (kx_m kw_698)) (by decide +kernel) ⟨Nat.le_of_ble_eq_true rfl, Nat.le_of_ble_eq_true rfl⟩), (hts _ (kx_m kw_700)), (hts _ (kx_m kw_14))⟩ (kx_preV (ci := 3) (q0 := 0) hK hN (hP.sub [0] kt_1_0) (hD.sub [0] (by decide) ks_1_0) rfl kg_1_0) rfl rfl hl.1 rfl (lv_room (Nat.le_of_ble_eq_true rfl)) dd_Ft_shrinkBy_14 ⟨Nat.le_of_ble_eq_true rfl, Nat.le_of_ble_eq_true rfl⟩) hP hD hS hA [0] [] ks_1_0 ks_1_ (by decide) (by decide) (fun u14 H locs hw14 hP hD hS => ?_)
    have hP : va_P D vwCl [(f, .inr (3, [.int (nI 10000), .int (nI 3), .long (wt - sh)]))] H := hP
    have hD : va_D A [(f, .inr (3, [.int (nI 10000), .int (nI 3), .long (wt - sh)]))] := hD
    rw [hQ]
    exact kx_vret hx hb hr hlocks hK hN hS dd_Ft_shrinkBy_17 (nI 10000, 3, wt - sh) hP hD (by rw [if_neg c3, if_neg c3, if_neg c3]; exact ⟨rfl, rfl, rfl⟩)

theorem dd_Ft_stretchBy_0 : decode bb_Ft_stretchBy 0 = .ok (.lload_n 1, 1) := by decide +kernel
theorem dd_Ft_stretchBy_1 : decode bb_Ft_stretchBy 1 = .ok (.lload_n 3, 1) := by decide +kernel
theorem dd_Ft_stretchBy_2 : decode bb_Ft_stretchBy 2 = .ok (.invokestatic 91, 3) := by decide +kernel
theorem dd_Ft_stretchBy_5 : decode bb_Ft_stretchBy 5 = .ok (.istore 5, 2) := by decide +kernel
theorem dd_Ft_stretchBy_7 : decode bb_Ft_stretchBy 7 = .ok (.aload_n 0, 1) := by decide +kernel
theorem dd_Ft_stretchBy_8 : decode bb_Ft_stretchBy 8 = .ok (.iload 5, 2) := by decide +kernel
theorem dd_Ft_stretchBy_10 : decode bb_Ft_stretchBy 10 = .ok (.iload 5, 2) := by decide +kernel
theorem dd_Ft_stretchBy_12 : decode bb_Ft_stretchBy 12 = .ok (.bipush (99), 2) := by decide +kernel
theorem dd_Ft_stretchBy_14 : decode bb_Ft_stretchBy 14 = .ok (.if_icmp .le (7), 3) := by decide +kernel
theorem dd_Ft_stretchBy_17 : decode bb_Ft_stretchBy 17 = .ok (.iconst 0, 1) := by decide +kernel
theorem dd_Ft_stretchBy_18 : decode bb_Ft_stretchBy 18 = .ok (.goto (15), 3) := by decide +kernel
theorem dd_Ft_stretchBy_21 : decode bb_Ft_stretchBy 21 = .ok (.iload 5, 2) := by decide +kernel
theorem dd_Ft_stretchBy_23 : decode bb_Ft_stretchBy 23 = .ok (.bipush (12), 2) := by decide +kernel
theorem dd_Ft_stretchBy_25 : decode bb_Ft_stretchBy 25 = .ok (.if_icmp .le (7), 3) := by decide +kernel
theorem dd_Ft_stretchBy_28 : decode bb_Ft_stretchBy 28 = .ok (.iconst 1, 1) := by decide +kernel
theorem dd_Ft_stretchBy_29 : decode bb_Ft_stretchBy 29 = .ok (.goto (4), 3) := by decide +kernel
theorem dd_Ft_stretchBy_32 : decode bb_Ft_stretchBy 32 = .ok (.iconst 2, 1) := by decide +kernel
theorem dd_Ft_stretchBy_33 : decode bb_Ft_stretchBy 33 = .ok (.lconst 0, 1) := by decide +kernel
theorem dd_Ft_stretchBy_34 : decode bb_Ft_stretchBy 34 = .ok (.invokevirtual 79, 3) := by decide +kernel
theorem dd_Ft_stretchBy_37 : decode bb_Ft_stretchBy 37 = .ok (.return_, 1) := by decide +kernel

set_option maxHeartbeats 4000000 in
set_option maxRecDepth 100000 in
theorem ct_Ft_stretchBy (l : Launch) (D : va_G) (cI cJ cZ : ClassId) (sz : Nat) (f : Nat) (fb : Int32) (fc : Nat) (fo : Int64) (ex : Int64) (st2 : Int64) : kx_Mv l yy_Ft_stretchBy ww_Ft_stretchBy ({ frames := 1, cells := 0, slots := 0, locals := 25 }) D vwCl (kx_ty cI cJ cZ) [.ref f, .long ex, .long st2] [(f, .inr (3, [.int fb, .int (nI fc), .long fo]))] sz (fun (u : Unit) => True) (fun (u : Unit) => [(f, .inr (3, [.int (pm_bad ex st2), .int (nI (pm_c1 (pm_bad ex st2))), .long (0 : Int64)]))]) 0 0 := by
  refine kx_startv (by decide) rfl (Nat.le_of_ble_eq_true rfl) ?_
  intro p e s m below meth c A ls hx hb hr hml hts hown hlocks hin hP hK hN hD hA hS hl
  have hl : lv_has ls 6 [(0, .ref f), (1, .long ex), (3, .long st2)] := hl
  have hown : s.vm.findClass rr_Ft = some m.cls := hown
  obtain ⟨H, hH⟩ : ∃ H, H = s.heap := ⟨_, rfl⟩
  obtain ⟨locs, hlocs⟩ : ∃ z : List Loc, z = [] := ⟨_, rfl⟩
  have hP : va_P D vwCl [(f, .inr (3, [.int fb, .int (nI fc), .long fo]))] H := by rw [hH]; exact hP
  have hS : va_S A s.heap H locs := by rw [hH, hlocs]; exact hS
  refine kx_gen hH hlocs ?_
  clear hH hlocs
  refine kx_nameQ (fun Q hQ => ?_)
  refine lv_lload_n hx hb dd_Ft_stretchBy_0 rfl (lv_at hl 1 rfl) ?_
  refine lv_lload_n hx hb dd_Ft_stretchBy_1 rfl (lv_at hl 2 rfl) ?_
  refine kx_calli (wr := [(f, .inr (3, [.int fb, .int (nI fc), .long fo]))]) (va_runS (As := [.long ex, .long st2]) (rest := []) ⟨hx, hb, hml, hown, hts⟩ (ct_Ft_badnessOf l D cI cJ cZ H.size ex st2) ⟨(callB_of 2 hts (kx_good kw_704) rfl rfl rfl (hts _ (kx_m kw_50)) (hts _ (kx_m kw_702)) (by decide +kernel) ⟨Nat.le_of_ble_eq_true rfl, Nat.le_of_ble_eq_true rfl⟩), (hts _ (kx_m kw_703))⟩ (kx_preS hK hN (hP.sub [] kt_1_) (hD.sub [] (by decide) ks_1_)) rfl rfl hl.1 rfl (lv_room (Nat.le_of_ble_eq_true rfl)) dd_Ft_stretchBy_2 ⟨Nat.le_of_ble_eq_true rfl, Nat.le_of_ble_eq_true rfl⟩) hP hD hS hA [] [0] ks_1_ ks_1_0 (by decide) (by decide) (fun r2 u2 H locs hw2 hP hD hS => ?_)
  have hP : va_P D vwCl [(f, .inr (3, [.int fb, .int (nI fc), .long fo]))] H := hP
  have hD : va_D A [(f, .inr (3, [.int fb, .int (nI fc), .long fo]))] := hD
  have hw2 : r2 = pm_bad ex st2 := hw2
  subst hw2
  refine lv_istore (lv' := [(5, .int (pm_bad ex st2)), (0, .ref f), (1, .long ex), (3, .long st2)]) hx hb dd_Ft_stretchBy_5 hl (by decide) rfl (fun ls hl => ?_)
  refine lv_aload_n hx hb dd_Ft_stretchBy_7 rfl (lv_at hl 1 rfl) ?_
  refine lv_iload hx hb dd_Ft_stretchBy_8 (lv_at hl 0 rfl) ?_
  refine lv_iload hx hb dd_Ft_stretchBy_10 (lv_at hl 0 rfl) ?_
  refine lv_bipush (v := nI 99) hx hb dd_Ft_stretchBy_12 (by decide) ?_
  refine kx_joini (D := D) (cl := vwCl) (A := A) (ws := [(f, .inr (3, [.int fb, .int (nI fc), .long fo]))]) (Y := 33) (ls1 := ls) (st1 := [.int (pm_bad ex st2), .ref f]) (if (pm_bad ex st2) ≤ (nI 99) then (if (pm_bad ex st2) ≤ (nI 12) then (nI 2) else (nI 1)) else (nI 0)) (fun v33 H locs e_v33 hP hD hS => ?_) (fun K33 => ?_)
  · skip
    obtain rfl : v33 = nI (pm_c1 (pm_bad ex st2)) := by rw [e_v33]; unfold pm_c1; split <;> (try split) <;> rfl
    refine lv_lconst (v := 0) hx hb dd_Ft_stretchBy_33 (by decide) ?_
    refine kx_callv (wr := []) (va_runV (C := rr_Ft) (As := [.int (pm_bad ex st2), .int (nI (pm_c1 (pm_bad ex st2))), .long (0 : Int64)]) (rest := []) ⟨hx, hb, hml, hown, hts⟩ (ct_Ft_set l D cI cJ cZ H.size f fb fc fo (pm_bad ex st2) (pm_c1 (pm_bad ex st2)) (0 : Int64)) ⟨(callB_of 3 hts (kx_good kw_701) rfl rfl rfl (hts _ (kx_m kw_50)) (hts _ (kx_m kw_698)) (by decide +kernel) ⟨Nat.le_of_ble_eq_true rfl, Nat.le_of_ble_eq_true rfl⟩), (hts _ (kx_m kw_700)), (hts _ (kx_m kw_14))⟩ (kx_preV (ci := 3) (q0 := 0) hK hN (hP.sub [0] kt_1_0) (hD.sub [0] (by decide) ks_1_0) rfl kg_1_0) rfl rfl hl.1 rfl (lv_room (Nat.le_of_ble_eq_true rfl)) dd_Ft_stretchBy_34 ⟨Nat.le_of_ble_eq_true rfl, Nat.le_of_ble_eq_true rfl⟩) hP hD hS hA [0] [] ks_1_0 ks_1_ (by decide) (by decide) (fun u34 H locs hw34 hP hD hS => ?_)
    have hP : va_P D vwCl [(f, .inr (3, [.int (pm_bad ex st2), .int (nI (pm_c1 (pm_bad ex st2))), .long (0 : Int64)]))] H := hP
    have hD : va_D A [(f, .inr (3, [.int (pm_bad ex st2), .int (nI (pm_c1 (pm_bad ex st2))), .long (0 : Int64)]))] := hD
    rw [hQ]
    exact kx_vret hx hb hr hlocks hK hN hS dd_Ft_stretchBy_37 () hP hD trivial
  · skip
    refine lv_icmp_le (tgt := 21) hx hb dd_Ft_stretchBy_14 (by decide) (fun c14 => ?_) (fun c14 => ?_)
    · skip
      refine lv_iload hx hb dd_Ft_stretchBy_21 (lv_at hl 0 rfl) ?_
      refine lv_bipush (v := nI 12) hx hb dd_Ft_stretchBy_23 (by decide) ?_
      refine lv_icmp_le (tgt := 32) hx hb dd_Ft_stretchBy_25 (by decide) (fun c25 => ?_) (fun c25 => ?_)
      · skip
        refine lv_iconst (v := nI 2) hx hb dd_Ft_stretchBy_32 (by decide) ?_
        exact K33 _ H locs (by rw [if_pos c14, if_pos c25]) hP hD hS
      · skip
        refine lv_iconst (v := nI 1) hx hb dd_Ft_stretchBy_28 (by decide) ?_
        refine lv_goto (tgt := 33) hx hb dd_Ft_stretchBy_29 (by decide) ?_
        exact K33 _ H locs (by rw [if_pos c14, if_neg c25]) hP hD hS
    · skip
      refine lv_iconst (v := nI 0) hx hb dd_Ft_stretchBy_17 (by decide) ?_
      refine lv_goto (tgt := 33) hx hb dd_Ft_stretchBy_18 (by decide) ?_
      exact K33 _ H locs (by rw [if_neg c14]) hP hD hS

theorem dd_Sp_set_0 : decode bb_Sp_set 0 = .ok (.aload_n 0, 1) := by decide +kernel
theorem dd_Sp_set_1 : decode bb_Sp_set 1 = .ok (.iload_n 1, 1) := by decide +kernel
theorem dd_Sp_set_2 : decode bb_Sp_set 2 = .ok (.i2l, 1) := by decide +kernel
theorem dd_Sp_set_3 : decode bb_Sp_set 3 = .ok (.putfield 7, 3) := by decide +kernel
theorem dd_Sp_set_6 : decode bb_Sp_set 6 = .ok (.aload_n 0, 1) := by decide +kernel
theorem dd_Sp_set_7 : decode bb_Sp_set 7 = .ok (.iload_n 3, 1) := by decide +kernel
theorem dd_Sp_set_8 : decode bb_Sp_set 8 = .ok (.ifCond .ne (8), 3) := by decide +kernel
theorem dd_Sp_set_11 : decode bb_Sp_set 11 = .ok (.iload_n 2, 1) := by decide +kernel
theorem dd_Sp_set_12 : decode bb_Sp_set 12 = .ok (.i2l, 1) := by decide +kernel
theorem dd_Sp_set_13 : decode bb_Sp_set 13 = .ok (.goto (4), 3) := by decide +kernel
theorem dd_Sp_set_16 : decode bb_Sp_set 16 = .ok (.lconst 0, 1) := by decide +kernel
theorem dd_Sp_set_17 : decode bb_Sp_set 17 = .ok (.putfield 13, 3) := by decide +kernel
theorem dd_Sp_set_20 : decode bb_Sp_set 20 = .ok (.aload_n 0, 1) := by decide +kernel
theorem dd_Sp_set_21 : decode bb_Sp_set 21 = .ok (.iload_n 3, 1) := by decide +kernel
theorem dd_Sp_set_22 : decode bb_Sp_set 22 = .ok (.ifCond .ne (7), 3) := by decide +kernel
theorem dd_Sp_set_25 : decode bb_Sp_set 25 = .ok (.lconst 0, 1) := by decide +kernel
theorem dd_Sp_set_26 : decode bb_Sp_set 26 = .ok (.goto (5), 3) := by decide +kernel
theorem dd_Sp_set_29 : decode bb_Sp_set 29 = .ok (.iload_n 2, 1) := by decide +kernel
theorem dd_Sp_set_30 : decode bb_Sp_set 30 = .ok (.i2l, 1) := by decide +kernel
theorem dd_Sp_set_31 : decode bb_Sp_set 31 = .ok (.putfield 16, 3) := by decide +kernel
theorem dd_Sp_set_34 : decode bb_Sp_set 34 = .ok (.aload_n 0, 1) := by decide +kernel
theorem dd_Sp_set_35 : decode bb_Sp_set 35 = .ok (.iload 4, 2) := by decide +kernel
theorem dd_Sp_set_37 : decode bb_Sp_set 37 = .ok (.i2l, 1) := by decide +kernel
theorem dd_Sp_set_38 : decode bb_Sp_set 38 = .ok (.putfield 19, 3) := by decide +kernel
theorem dd_Sp_set_41 : decode bb_Sp_set 41 = .ok (.return_, 1) := by decide +kernel

set_option maxHeartbeats 4000000 in
set_option maxRecDepth 100000 in
theorem ct_Sp_set (l : Launch) (D : va_G) (cI cJ cZ : ClassId) (sz : Nat) (f : Nat) (f0 : Int64) (f1 : Int64) (f2 : Int64) (f3 : Int64) (w : Int32) (st2 : Int32) (or2 : Int32) (sh2 : Int32) : kx_Mv l yy_Sp_set ww_Sp_set ({ frames := 0, cells := 0, slots := 0, locals := 0 }) D vwCl (kx_ty cI cJ cZ) [.ref f, .int w, .int st2, .int or2, .int sh2] [(f, .inr (9, [.long f0, .long f1, .long f2, .long f3]))] sz (fun (u : Unit) => True) (fun (u : Unit) => [(f, .inr (9, [.long w.toInt64, .long (if or2 = 0 then st2.toInt64 else 0), .long (if or2 = 0 then 0 else st2.toInt64), .long sh2.toInt64]))]) 0 0 := by
  refine kx_startv (by decide) rfl (Nat.le_of_ble_eq_true rfl) ?_
  intro p e s m below meth c A ls hx hb hr hml hts hown hlocks hin hP hK hN hD hA hS hl
  have hl : lv_has ls 5 [(0, .ref f), (1, .int w), (2, .int st2), (3, .int or2), (4, .int sh2)] := hl
  have hown : s.vm.findClass rr_Sp = some m.cls := hown
  have lk0 := hts _ (kx_m kw_82)
  have hin9 : ∀ w ∈ u_ws rr_Sp tt_Sp 4, w ∈ ww_Sp_set := fun w h => kx_m (kf_Sp w h)
  have lk2 := hts _ (kx_m kw_84)
  have lk3 := hts _ (kx_m kw_86)
  have lk4 := hts _ (kx_m kw_88)
  obtain ⟨H, hH⟩ : ∃ H, H = s.heap := ⟨_, rfl⟩
  obtain ⟨locs, hlocs⟩ : ∃ z : List Loc, z = [] := ⟨_, rfl⟩
  have hP : va_P D vwCl [(f, .inr (9, [.long f0, .long f1, .long f2, .long f3]))] H := by rw [hH]; exact hP
  have hS : va_S A s.heap H locs := by rw [hH, hlocs]; exact hS
  refine kx_gen hH hlocs ?_
  clear hH hlocs
  refine kx_nameQ (fun Q hQ => ?_)
  refine lv_aload_n hx hb dd_Sp_set_0 rfl (lv_at hl 0 rfl) ?_
  refine lv_iload_n hx hb dd_Sp_set_1 rfl (lv_at hl 1 rfl) ?_
  refine lv_i2l hx hb dd_Sp_set_2 rfl ?_
  refine va_put (D := D) (ci := 9) (v := .long w.toInt64) (ty := .long) (C := rr_Sp) (T := tt_Sp) (N := 4) hx hb hts hin9 ft_Sp ft_Sp_ok nn_Sp hown hK hP hD hS 0 kg_1_0 rfl 0 (by decide) lk0 (fun _ h9 => h9) rfl (by decide +kernel) rfl rfl (Nat.le_of_ble_eq_true rfl) dd_Sp_set_3 (fun H locs hP hD hS => ?_)
  have hP : va_P D vwCl [(f, .inr (9, [.long w.toInt64, .long f1, .long f2, .long f3]))] H := kx_cP kz_1_0 hP
  have hD : va_D A [(f, .inr (9, [.long w.toInt64, .long f1, .long f2, .long f3]))] := kx_cD kz_1_0 hD
  refine lv_aload_n hx hb dd_Sp_set_6 rfl (lv_at hl 0 rfl) ?_
  refine lv_iload_n hx hb dd_Sp_set_7 rfl (lv_at hl 3 rfl) ?_
  refine kx_joinl (D := D) (cl := vwCl) (A := A) (ws := [(f, .inr (9, [.long w.toInt64, .long f1, .long f2, .long f3]))]) (Y := 17) (ls1 := ls) (st1 := [.ref f]) (if or2 = 0 then st2.toInt64 else (0 : Int64)) (fun v17 H locs e_v17 hP hD hS => ?_) (fun K17 => ?_)
  · skip
    subst e_v17
    refine va_put (D := D) (ci := 9) (v := .long (if or2 = 0 then st2.toInt64 else 0)) (ty := .long) (C := rr_Sp) (T := tt_Sp) (N := 4) hx hb hts hin9 ft_Sp ft_Sp_ok nn_Sp hown hK hP hD hS 0 kg_1_0 rfl 1 (by decide) lk2 (fun _ h9 => h9) rfl (by decide +kernel) rfl rfl (Nat.le_of_ble_eq_true rfl) dd_Sp_set_17 (fun H locs hP hD hS => ?_)
    have hP : va_P D vwCl [(f, .inr (9, [.long w.toInt64, .long (if or2 = 0 then st2.toInt64 else 0), .long f2, .long f3]))] H := kx_cP kz_1_0 hP
    have hD : va_D A [(f, .inr (9, [.long w.toInt64, .long (if or2 = 0 then st2.toInt64 else 0), .long f2, .long f3]))] := kx_cD kz_1_0 hD
    refine lv_aload_n hx hb dd_Sp_set_20 rfl (lv_at hl 0 rfl) ?_
    refine lv_iload_n hx hb dd_Sp_set_21 rfl (lv_at hl 3 rfl) ?_
    refine kx_joinl (D := D) (cl := vwCl) (A := A) (ws := [(f, .inr (9, [.long w.toInt64, .long (if or2 = 0 then st2.toInt64 else 0), .long f2, .long f3]))]) (Y := 31) (ls1 := ls) (st1 := [.ref f]) (if or2 = 0 then (0 : Int64) else st2.toInt64) (fun v31 H locs e_v31 hP hD hS => ?_) (fun K31 => ?_)
    · skip
      subst e_v31
      refine va_put (D := D) (ci := 9) (v := .long (if or2 = 0 then 0 else st2.toInt64)) (ty := .long) (C := rr_Sp) (T := tt_Sp) (N := 4) hx hb hts hin9 ft_Sp ft_Sp_ok nn_Sp hown hK hP hD hS 0 kg_1_0 rfl 2 (by decide) lk3 (fun _ h9 => h9) rfl (by decide +kernel) rfl rfl (Nat.le_of_ble_eq_true rfl) dd_Sp_set_31 (fun H locs hP hD hS => ?_)
      have hP : va_P D vwCl [(f, .inr (9, [.long w.toInt64, .long (if or2 = 0 then st2.toInt64 else 0), .long (if or2 = 0 then 0 else st2.toInt64), .long f3]))] H := kx_cP kz_1_0 hP
      have hD : va_D A [(f, .inr (9, [.long w.toInt64, .long (if or2 = 0 then st2.toInt64 else 0), .long (if or2 = 0 then 0 else st2.toInt64), .long f3]))] := kx_cD kz_1_0 hD
      refine lv_aload_n hx hb dd_Sp_set_34 rfl (lv_at hl 0 rfl) ?_
      refine lv_iload hx hb dd_Sp_set_35 (lv_at hl 4 rfl) ?_
      refine lv_i2l hx hb dd_Sp_set_37 rfl ?_
      refine va_put (D := D) (ci := 9) (v := .long sh2.toInt64) (ty := .long) (C := rr_Sp) (T := tt_Sp) (N := 4) hx hb hts hin9 ft_Sp ft_Sp_ok nn_Sp hown hK hP hD hS 0 kg_1_0 rfl 3 (by decide) lk4 (fun _ h9 => h9) rfl (by decide +kernel) rfl rfl (Nat.le_of_ble_eq_true rfl) dd_Sp_set_38 (fun H locs hP hD hS => ?_)
      have hP : va_P D vwCl [(f, .inr (9, [.long w.toInt64, .long (if or2 = 0 then st2.toInt64 else 0), .long (if or2 = 0 then 0 else st2.toInt64), .long sh2.toInt64]))] H := kx_cP kz_1_0 hP
      have hD : va_D A [(f, .inr (9, [.long w.toInt64, .long (if or2 = 0 then st2.toInt64 else 0), .long (if or2 = 0 then 0 else st2.toInt64), .long sh2.toInt64]))] := kx_cD kz_1_0 hD
      rw [hQ]
      exact kx_vret hx hb hr hlocks hK hN hS dd_Sp_set_41 () hP hD trivial
    · skip
      refine lv_if_ne (tgt := 29) hx hb dd_Sp_set_22 (by decide) (fun c22 => ?_) (fun c22 => ?_)
      · skip
        refine lv_iload_n hx hb dd_Sp_set_29 rfl (lv_at hl 2 rfl) ?_
        refine lv_i2l hx hb dd_Sp_set_30 rfl ?_
        exact K31 _ H locs (by rw [if_neg c22]) hP hD hS
      · skip
        refine lv_lconst (v := 0) hx hb dd_Sp_set_25 (by decide) ?_
        refine lv_goto (tgt := 31) hx hb dd_Sp_set_26 (by decide) ?_
        exact K31 _ H locs (by rw [if_pos c22]) hP hD hS
  · skip
    refine lv_if_ne (tgt := 16) hx hb dd_Sp_set_8 (by decide) (fun c8 => ?_) (fun c8 => ?_)
    · skip
      refine lv_lconst (v := 0) hx hb dd_Sp_set_16 (by decide) ?_
      exact K17 _ H locs (by rw [if_neg c8]) hP hD hS
    · skip
      refine lv_iload_n hx hb dd_Sp_set_11 rfl (lv_at hl 2 rfl) ?_
      refine lv_i2l hx hb dd_Sp_set_12 rfl ?_
      refine lv_goto (tgt := 17) hx hb dd_Sp_set_13 (by decide) ?_
      exact K17 _ H locs (by rw [if_pos c8]) hP hD hS

theorem dd_It_isKind_0 : decode bb_It_isKind 0 = .ok (.iload_n 1, 1) := by decide +kernel
theorem dd_It_isKind_1 : decode bb_It_isKind 1 = .ok (.ifCond .lt (25), 3) := by decide +kernel
theorem dd_It_isKind_4 : decode bb_It_isKind 4 = .ok (.iload_n 1, 1) := by decide +kernel
theorem dd_It_isKind_5 : decode bb_It_isKind 5 = .ok (.aload_n 0, 1) := by decide +kernel
theorem dd_It_isKind_6 : decode bb_It_isKind 6 = .ok (.getfield 40, 3) := by decide +kernel
theorem dd_It_isKind_9 : decode bb_It_isKind 9 = .ok (.if_icmp .ge (17), 3) := by decide +kernel
theorem dd_It_isKind_12 : decode bb_It_isKind 12 = .ok (.aload_n 0, 1) := by decide +kernel
theorem dd_It_isKind_13 : decode bb_It_isKind 13 = .ok (.getfield 9, 3) := by decide +kernel
theorem dd_It_isKind_16 : decode bb_It_isKind 16 = .ok (.iload_n 1, 1) := by decide +kernel
theorem dd_It_isKind_17 : decode bb_It_isKind 17 = .ok (.iaload, 1) := by decide +kernel
theorem dd_It_isKind_18 : decode bb_It_isKind 18 = .ok (.iload_n 2, 1) := by decide +kernel
theorem dd_It_isKind_19 : decode bb_It_isKind 19 = .ok (.if_icmp .ne (7), 3) := by decide +kernel
theorem dd_It_isKind_22 : decode bb_It_isKind 22 = .ok (.iconst 1, 1) := by decide +kernel
theorem dd_It_isKind_23 : decode bb_It_isKind 23 = .ok (.goto (4), 3) := by decide +kernel
theorem dd_It_isKind_26 : decode bb_It_isKind 26 = .ok (.iconst 0, 1) := by decide +kernel
theorem dd_It_isKind_27 : decode bb_It_isKind 27 = .ok (.ireturn, 1) := by decide +kernel

set_option maxHeartbeats 4000000 in
set_option maxRecDepth 100000 in
theorem ct_It_isKind (l : Launch) (D : va_G) (cI cJ cZ : ClassId) (sz : Nat) (t : Nat) (cn : Nat) (i1 : Nat) (i2 : Nat) (i3 : Nat) (i4 : Nat) (i5 : Nat) (i6 : Nat) (i7 : Nat) (i8 : Nat) (i9 : Nat) (ln : Nat) (ik : Nat → Int32) (i : Nat) (wt : Int32) (hi : i < 2 ^ 31) (hc : cn ≤ ln) (hln : ln < 2 ^ 31) : kx_Mi l yy_It_isKind ww_It_isKind ({ frames := 0, cells := 0, slots := 0, locals := 0 }) D vwCl (kx_ty cI cJ cZ) [.ref t, .int (nI i), .int wt] [(t, .inr (4, [.int (nI cn), .ref i1, .ref i2, .ref i3, .ref i4, .ref i5, .ref i6, .ref i7, .ref i8, .ref i9])), (i1, .inl (cI, ln, .inl ik))] sz (fun (r : Int32) (u : Unit) => r = kb_p (i < cn ∧ ik i = wt)) (fun (u : Unit) => [(t, .inr (4, [.int (nI cn), .ref i1, .ref i2, .ref i3, .ref i4, .ref i5, .ref i6, .ref i7, .ref i8, .ref i9])), (i1, .inl (cI, ln, .inl ik))]) 0 0 := by
  refine kx_starti (by decide) rfl (Nat.le_of_ble_eq_true rfl) ?_
  intro p e s m below meth c A ls hx hb hr hml hts hown hlocks hin hP hK hN hD hA hS hl
  have hl : lv_has ls 3 [(0, .ref t), (1, .int (nI i)), (2, .int wt)] := hl
  have hown : s.vm.findClass rr_It = some m.cls := hown
  have lk0 := hts _ (kx_m kw_131)
  have hin4 : ∀ w ∈ u_ws rr_It tt_It 10, w ∈ ww_It_isKind := fun w h => kx_m (kf_It w h)
  have lk2 := hts _ (kx_m kw_134)
  obtain ⟨H, hH⟩ : ∃ H, H = s.heap := ⟨_, rfl⟩
  obtain ⟨locs, hlocs⟩ : ∃ z : List Loc, z = [] := ⟨_, rfl⟩
  have hP : va_P D vwCl [(t, .inr (4, [.int (nI cn), .ref i1, .ref i2, .ref i3, .ref i4, .ref i5, .ref i6, .ref i7, .ref i8, .ref i9])), (i1, .inl (cI, ln, .inl ik))] H := by rw [hH]; exact hP
  have hS : va_S A s.heap H locs := by rw [hH, hlocs]; exact hS
  refine kx_gen hH hlocs ?_
  clear hH hlocs
  refine kx_nameQ (fun Q hQ => ?_)
  refine lv_iload_n hx hb dd_It_isKind_0 rfl (lv_at hl 1 rfl) ?_
  refine lv_if_lt (tgt := 26) hx hb dd_It_isKind_1 (by decide) (fun c1 => ?_) (fun c1 => ?_)
  · skip
    have c1 : i < 0 := (kn_lt0 (by omega)).mp c1
    exact absurd c1 (by omega)
  · skip
    have c1 : ¬ (i < 0) := fun h => c1 ((kn_lt0 (by omega)).mpr h)
    refine lv_iload_n hx hb dd_It_isKind_4 rfl (lv_at hl 1 rfl) ?_
    refine lv_aload_n hx hb dd_It_isKind_5 rfl (lv_at hl 0 rfl) ?_
    refine va_get (D := D) (ci := 4) (v := .int (nI cn)) (C := rr_It) (T := tt_It) (N := 10) hx hb hts hin4 hown hK hP 0 kg_2_0 rfl 0 (by decide) lk0 (fun _ h9 => h9) rfl dd_It_isKind_6 ?_
    refine lv_icmp_ge (tgt := 26) hx hb dd_It_isKind_9 (by decide) (fun c9 => ?_) (fun c9 => ?_)
    · skip
      have c9 : cn ≤ i := (nI_leI (by omega) (by omega)).mp c9
      refine lv_iconst (v := nI 0) hx hb dd_It_isKind_26 (by decide) ?_
      rw [hQ]
      exact kx_zret hx hb hr hlocks hK hN hS dd_It_isKind_27 (by decide) () hP hD (by clear hP hD hS hK hl hts; first | (refine kb_t ?_; simp_all; done) | (refine kb_f ?_; simp_all; done) | (refine kb_t ?_; simp_all <;> (intros; omega)) | (refine kb_f ?_; simp_all <;> (intros; omega)))
    · skip
      have c9 : ¬ (cn ≤ i) := fun h => c9 ((nI_leI (by omega) (by omega)).mpr h)
      refine lv_aload_n hx hb dd_It_isKind_12 rfl (lv_at hl 0 rfl) ?_
      refine va_get (D := D) (ci := 4) (v := .ref i1) (C := rr_It) (T := tt_It) (N := 10) hx hb hts hin4 hown hK hP 0 kg_2_0 rfl 1 (by decide) lk2 (fun _ h9 => h9) rfl dd_It_isKind_13 ?_
      refine lv_iload_n hx hb dd_It_isKind_16 rfl (lv_at hl 1 rfl) ?_
      refine kx_iald (q0 := 1) (t0 := 0) hx hb dd_It_isKind_17 hK hP kg_2_1 rfl (by omega) (by omega) ?_
      refine lv_iload_n hx hb dd_It_isKind_18 rfl (lv_at hl 2 rfl) ?_
      refine lv_icmp_ne (tgt := 26) hx hb dd_It_isKind_19 (by decide) (fun c19 => ?_) (fun c19 => ?_)
      · skip
        refine lv_iconst (v := nI 0) hx hb dd_It_isKind_26 (by decide) ?_
        rw [hQ]
        exact kx_zret hx hb hr hlocks hK hN hS dd_It_isKind_27 (by decide) () hP hD (by clear hP hD hS hK hl hts; first | (refine kb_t ?_; simp_all; done) | (refine kb_f ?_; simp_all; done) | (refine kb_t ?_; simp_all <;> (intros; omega)) | (refine kb_f ?_; simp_all <;> (intros; omega)))
      · skip
        refine lv_iconst (v := nI 1) hx hb dd_It_isKind_22 (by decide) ?_
        refine lv_goto (tgt := 27) hx hb dd_It_isKind_23 (by decide) ?_
        rw [hQ]
        exact kx_zret hx hb hr hlocks hK hN hS dd_It_isKind_27 (by decide) () hP hD (by clear hP hD hS hK hl hts; first | (refine kb_t ?_; simp_all; done) | (refine kb_f ?_; simp_all; done) | (refine kb_t ?_; simp_all <;> (intros; omega)) | (refine kb_f ?_; simp_all <;> (intros; omega)))


set_option maxHeartbeats 4000000 in
set_option maxRecDepth 100000 in
theorem ct_It_isKind_p (l : Launch) (D : va_G) (cI cJ cZ : ClassId) (sz : Nat) (t : Nat) (cn : Nat) (i1 : Nat) (i2 : Nat) (i3 : Nat) (i4 : Nat) (i5 : Nat) (i6 : Nat) (i7 : Nat) (i8 : Nat) (i9 : Nat) (ln : Nat) (ik : Nat → Int32) (i : Nat) (wt : Int32) (hi : i < 2 ^ 31) (hc : cn ≤ ln) (hln : ln < 2 ^ 31) : kx_Mi l yy_It_isKind ww_It_isKind ({ frames := 0, cells := 0, slots := 0, locals := 0 }) D vwCl (kx_ty cI cJ cZ) [.ref t, .int (kp_ i), .int wt] [(t, .inr (4, [.int (nI cn), .ref i1, .ref i2, .ref i3, .ref i4, .ref i5, .ref i6, .ref i7, .ref i8, .ref i9])), (i1, .inl (cI, ln, .inl ik))] sz (fun (r : Int32) (u : Unit) => r = kb_p (1 ≤ i ∧ i - 1 < cn ∧ ik (i - 1) = wt)) (fun (u : Unit) => [(t, .inr (4, [.int (nI cn), .ref i1, .ref i2, .ref i3, .ref i4, .ref i5, .ref i6, .ref i7, .ref i8, .ref i9])), (i1, .inl (cI, ln, .inl ik))]) 0 0 := by
  refine kx_starti (by decide) rfl (Nat.le_of_ble_eq_true rfl) ?_
  intro p e s m below meth c A ls hx hb hr hml hts hown hlocks hin hP hK hN hD hA hS hl
  have hl : lv_has ls 3 [(0, .ref t), (1, .int (kp_ i)), (2, .int wt)] := hl
  have hown : s.vm.findClass rr_It = some m.cls := hown
  have lk0 := hts _ (kx_m kw_131)
  have hin4 : ∀ w ∈ u_ws rr_It tt_It 10, w ∈ ww_It_isKind := fun w h => kx_m (kf_It w h)
  have lk2 := hts _ (kx_m kw_134)
  obtain ⟨H, hH⟩ : ∃ H, H = s.heap := ⟨_, rfl⟩
  obtain ⟨locs, hlocs⟩ : ∃ z : List Loc, z = [] := ⟨_, rfl⟩
  have hP : va_P D vwCl [(t, .inr (4, [.int (nI cn), .ref i1, .ref i2, .ref i3, .ref i4, .ref i5, .ref i6, .ref i7, .ref i8, .ref i9])), (i1, .inl (cI, ln, .inl ik))] H := by rw [hH]; exact hP
  have hS : va_S A s.heap H locs := by rw [hH, hlocs]; exact hS
  refine kx_gen hH hlocs ?_
  clear hH hlocs
  refine kx_nameQ (fun Q hQ => ?_)
  refine lv_iload_n hx hb dd_It_isKind_0 rfl (lv_at hl 1 rfl) ?_
  refine lv_if_lt (tgt := 26) hx hb dd_It_isKind_1 (by decide) (fun c1 => ?_) (fun c1 => ?_)
  · skip
    have hi0 : i = 0 := (kp_neg (by omega)).mp c1
    refine lv_iconst (v := nI 0) hx hb dd_It_isKind_26 (by decide) ?_
    rw [hQ]
    exact kx_zret hx hb hr hlocks hK hN hS dd_It_isKind_27 (by decide) () hP hD (by first | exact kb_f (fun q => absurd q.1 (by rw [hi0]; decide)) | exact kb_f (fun q => c19 q.2.2) | exact kb_f (fun q => absurd q.2.1 (Nat.not_lt_of_le c9)) | exact kb_t ⟨hi1, Nat.lt_of_not_le c9, c19⟩)
  · skip
    have hi1 : 1 ≤ i := by rcases Nat.eq_zero_or_pos i with z | z; exact absurd ((kp_neg (by omega)).mpr z) c1; exact z
    have hl : lv_has ls 3 [(0, .ref t), (1, .int (nI (i - 1))), (2, .int wt)] := by rw [kp_nat hi1] at hl; exact hl
    refine lv_iload_n hx hb dd_It_isKind_4 rfl (lv_at hl 1 rfl) ?_
    refine lv_aload_n hx hb dd_It_isKind_5 rfl (lv_at hl 0 rfl) ?_
    refine va_get (D := D) (ci := 4) (v := .int (nI cn)) (C := rr_It) (T := tt_It) (N := 10) hx hb hts hin4 hown hK hP 0 kg_2_0 rfl 0 (by decide) lk0 (fun _ h9 => h9) rfl dd_It_isKind_6 ?_
    refine lv_icmp_ge (tgt := 26) hx hb dd_It_isKind_9 (by decide) (fun c9 => ?_) (fun c9 => ?_)
    · skip
      have c9 : cn ≤ (i - 1) := (nI_leI (by omega) (by omega)).mp c9
      refine lv_iconst (v := nI 0) hx hb dd_It_isKind_26 (by decide) ?_
      rw [hQ]
      exact kx_zret hx hb hr hlocks hK hN hS dd_It_isKind_27 (by decide) () hP hD (by first | exact kb_f (fun q => absurd q.1 (by rw [hi0]; decide)) | exact kb_f (fun q => c19 q.2.2) | exact kb_f (fun q => absurd q.2.1 (Nat.not_lt_of_le c9)) | exact kb_t ⟨hi1, Nat.lt_of_not_le c9, c19⟩)
    · skip
      have c9 : ¬ (cn ≤ (i - 1)) := fun h => c9 ((nI_leI (by omega) (by omega)).mpr h)
      refine lv_aload_n hx hb dd_It_isKind_12 rfl (lv_at hl 0 rfl) ?_
      refine va_get (D := D) (ci := 4) (v := .ref i1) (C := rr_It) (T := tt_It) (N := 10) hx hb hts hin4 hown hK hP 0 kg_2_0 rfl 1 (by decide) lk2 (fun _ h9 => h9) rfl dd_It_isKind_13 ?_
      refine lv_iload_n hx hb dd_It_isKind_16 rfl (lv_at hl 1 rfl) ?_
      refine kx_iald (q0 := 1) (t0 := 0) hx hb dd_It_isKind_17 hK hP kg_2_1 rfl (by omega) (by omega) ?_
      refine lv_iload_n hx hb dd_It_isKind_18 rfl (lv_at hl 2 rfl) ?_
      refine lv_icmp_ne (tgt := 26) hx hb dd_It_isKind_19 (by decide) (fun c19 => ?_) (fun c19 => ?_)
      · skip
        refine lv_iconst (v := nI 0) hx hb dd_It_isKind_26 (by decide) ?_
        rw [hQ]
        exact kx_zret hx hb hr hlocks hK hN hS dd_It_isKind_27 (by decide) () hP hD (by first | exact kb_f (fun q => absurd q.1 (by rw [hi0]; decide)) | exact kb_f (fun q => c19 q.2.2) | exact kb_f (fun q => absurd q.2.1 (Nat.not_lt_of_le c9)) | exact kb_t ⟨hi1, Nat.lt_of_not_le c9, c19⟩)
      · skip
        refine lv_iconst (v := nI 1) hx hb dd_It_isKind_22 (by decide) ?_
        refine lv_goto (tgt := 27) hx hb dd_It_isKind_23 (by decide) ?_
        rw [hQ]
        exact kx_zret hx hb hr hlocks hK hN hS dd_It_isKind_27 (by decide) () hP hD (by first | exact kb_f (fun q => absurd q.1 (by rw [hi0]; decide)) | exact kb_f (fun q => c19 q.2.2) | exact kb_f (fun q => absurd q.2.1 (Nat.not_lt_of_le c9)) | exact kb_t ⟨hi1, Nat.lt_of_not_le c9, c19⟩)
