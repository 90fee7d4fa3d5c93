/-! lines and line of the class: what they throw, and what line answers -/
def pm_kl (f0 f1 f2 f3 f4 : Nat → Int32) (k : Nat) (w : Int32) : Int32 := if w = nI 0 then f0 (k - 1) else if w = nI 1 then f1 (k - 1) else if w = nI 2 then f2 (k - 1) else if w = nI 3 then f3 (k - 1) else f4 (k - 1)
theorem pm_k5 {w : Int32} (h0 : ¬ w = nI 0) (h1 : ¬ w = nI 1) (h2 : ¬ w = nI 2) (h3 : ¬ w = nI 3) (h4 : ¬ w = nI 4) : ¬ pm_in w (nI 0) (nI 4) := by
  intro h
  obtain ⟨e, hb⟩ := kn_box (n := 4) (by decide) h.1 h.2
  rw [e] at h0 h1 h2 h3 h4
  generalize w.toNatClampNeg = j at hb h0 h1 h2 h3 h4
  rcases (show j = 0 ∨ j = 1 ∨ j = 2 ∨ j = 3 ∨ j = 4 by omega) with q | q | q | q | q <;> subst q <;> first | exact h0 rfl | exact h1 rfl | exact h2 rfl | exact h3 rfl | exact h4 rfl
theorem kt_5_1_2_3_4 {c0 c1 c2 c3 c4 : Nat × va_E} : ([1, 2, 3, 4] : List Nat).filterMap (fun i => ([c0, c1, c2, c3, c4] : va_W)[i]?) = ([c1, c2, c3, c4] : va_W) := rfl
theorem kw_60 : Cond.initialized rr_Is ∈ kx_T := kx_in (i := 60) (by decide +kernel) (by decide +kernel)
theorem kw_61 : Cond.initialized rr_Io ∈ kx_T := kx_in (i := 61) (by decide +kernel) (by decide +kernel)
theorem kw_356 : Cond.fieldLink rr_K (123) "LineDesk$Made" "begin" "[I" ∈ kx_T := kx_in (i := 356) (by decide +kernel) (by decide +kernel)
theorem kw_358 : Cond.fieldLink rr_K (126) "LineDesk$Made" "end" "[I" ∈ kx_T := kx_in (i := 358) (by decide +kernel) (by decide +kernel)
theorem kw_360 : Cond.fieldLink rr_K (129) "LineDesk$Made" "badness" "[I" ∈ kx_T := kx_in (i := 360) (by decide +kernel) (by decide +kernel)
theorem kw_362 : Cond.fieldLink rr_K (132) "LineDesk$Made" "fitClass" "[I" ∈ kx_T := kx_in (i := 362) (by decide +kernel) (by decide +kernel)
theorem kw_364 : Cond.fieldLink rr_K (135) "LineDesk$Made" "out" "[I" ∈ kx_T := kx_in (i := 364) (by decide +kernel) (by decide +kernel)
theorem kw_517 : Cond.classLink rr_K (97) rr_Is ∈ kx_T := kx_in (i := 517) (by decide +kernel) (by decide +kernel)
theorem kw_584 : Cond.methodLink rr_K (104) yy_It_countBreaks ∈ kx_T := kx_in (i := 584) (by decide +kernel) (by decide +kernel)
theorem kw_774 : Cond.classLink rr_K (118) rr_Io ∈ kx_T := kx_in (i := 774) (by decide +kernel) (by decide +kernel)
theorem dd_K_lines_0 : decode bb_K_lines 0 = .ok (.aload_n 0, 1) := by decide +kernel
theorem dd_K_lines_1 : decode bb_K_lines 1 = .ok (.getfield 19, 3) := by decide +kernel
theorem dd_K_lines_4 : decode bb_K_lines 4 = .ok (.getfield 94, 3) := by decide +kernel
theorem dd_K_lines_7 : decode bb_K_lines 7 = .ok (.ifCond .ne (13), 3) := by decide +kernel
theorem dd_K_lines_10 : decode bb_K_lines 10 = .ok (.new 97, 3) := by decide +kernel
theorem dd_K_lines_13 : decode bb_K_lines 13 = .ok (.dup, 1) := by decide +kernel
theorem dd_K_lines_14 : decode bb_K_lines 14 = .ok (.ldc 99, 2) := by decide +kernel
theorem dd_K_lines_16 : decode bb_K_lines 16 = .ok (.invokespecial 101, 3) := by decide +kernel
theorem dd_K_lines_19 : decode bb_K_lines 19 = .ok (.athrow, 1) := by decide +kernel
theorem dd_K_lines_20 : decode bb_K_lines 20 = .ok (.aload_n 0, 1) := by decide +kernel
theorem dd_K_lines_21 : decode bb_K_lines 21 = .ok (.getfield 19, 3) := by decide +kernel
theorem dd_K_lines_24 : decode bb_K_lines 24 = .ok (.invokevirtual 104, 3) := by decide +kernel
theorem dd_K_lines_27 : decode bb_K_lines 27 = .ok (.sipush (400), 3) := by decide +kernel
theorem dd_K_lines_30 : decode bb_K_lines 30 = .ok (.if_icmp .le (13), 3) := by decide +kernel
theorem dd_K_lines_33 : decode bb_K_lines 33 = .ok (.new 97, 3) := by decide +kernel
theorem dd_K_lines_36 : decode bb_K_lines 36 = .ok (.dup, 1) := by decide +kernel
theorem dd_K_lines_37 : decode bb_K_lines 37 = .ok (.ldc 108, 2) := by decide +kernel
theorem dd_K_lines_39 : decode bb_K_lines 39 = .ok (.invokespecial 101, 3) := by decide +kernel
theorem dd_K_lines_42 : decode bb_K_lines 42 = .ok (.athrow, 1) := by decide +kernel
theorem dd_K_lines_43 : decode bb_K_lines 43 = .ok (.aload_n 0, 1) := by decide +kernel
theorem dd_K_lines_44 : decode bb_K_lines 44 = .ok (.getfield 15, 3) := by decide +kernel
theorem dd_K_lines_47 : decode bb_K_lines 47 = .ok (.getfield 40, 3) := by decide +kernel
theorem dd_K_lines_50 : decode bb_K_lines 50 = .ok (.iconst 0, 1) := by decide +kernel
theorem dd_K_lines_51 : decode bb_K_lines 51 = .ok (.iaload, 1) := by decide +kernel
theorem dd_K_lines_52 : decode bb_K_lines 52 = .ok (.ifCond .ge (7), 3) := by decide +kernel
theorem dd_K_lines_55 : decode bb_K_lines 55 = .ok (.iconst 2, 1) := by decide +kernel
theorem dd_K_lines_56 : decode bb_K_lines 56 = .ok (.goto (4), 3) := by decide +kernel
theorem dd_K_lines_59 : decode bb_K_lines 59 = .ok (.iconst 1, 1) := by decide +kernel
theorem dd_K_lines_60 : decode bb_K_lines 60 = .ok (.istore_n 1, 1) := by decide +kernel
theorem dd_K_lines_61 : decode bb_K_lines 61 = .ok (.iload_n 1, 1) := by decide +kernel
theorem dd_K_lines_62 : decode bb_K_lines 62 = .ok (.istore_n 2, 1) := by decide +kernel
theorem dd_K_lines_63 : decode bb_K_lines 63 = .ok (.iload_n 2, 1) := by decide +kernel
theorem dd_K_lines_64 : decode bb_K_lines 64 = .ok (.iconst 3, 1) := by decide +kernel
theorem dd_K_lines_65 : decode bb_K_lines 65 = .ok (.if_icmp .gt (34), 3) := by decide +kernel
theorem dd_K_lines_68 : decode bb_K_lines 68 = .ok (.aload_n 0, 1) := by decide +kernel
theorem dd_K_lines_69 : decode bb_K_lines 69 = .ok (.getfield 28, 3) := by decide +kernel
theorem dd_K_lines_72 : decode bb_K_lines 72 = .ok (.iload_n 2, 1) := by decide +kernel
theorem dd_K_lines_73 : decode bb_K_lines 73 = .ok (.invokevirtual 110, 3) := by decide +kernel
theorem dd_K_lines_76 : decode bb_K_lines 76 = .ok (.ifCond .eq (17), 3) := by decide +kernel
theorem dd_K_lines_79 : decode bb_K_lines 79 = .ok (.aload_n 0, 1) := by decide +kernel
theorem dd_K_lines_80 : decode bb_K_lines 80 = .ok (.getfield 28, 3) := by decide +kernel
theorem dd_K_lines_83 : decode bb_K_lines 83 = .ok (.aload_n 0, 1) := by decide +kernel
theorem dd_K_lines_84 : decode bb_K_lines 84 = .ok (.getfield 35, 3) := by decide +kernel
theorem dd_K_lines_87 : decode bb_K_lines 87 = .ok (.invokevirtual 113, 3) := by decide +kernel
theorem dd_K_lines_90 : decode bb_K_lines 90 = .ok (.goto (9), 3) := by decide +kernel
theorem dd_K_lines_93 : decode bb_K_lines 93 = .ok (.iinc 2 (1), 3) := by decide +kernel
theorem dd_K_lines_96 : decode bb_K_lines 96 = .ok (.goto (-33), 3) := by decide +kernel
theorem dd_K_lines_99 : decode bb_K_lines 99 = .ok (.aload_n 0, 1) := by decide +kernel
theorem dd_K_lines_100 : decode bb_K_lines 100 = .ok (.getfield 35, 3) := by decide +kernel
theorem dd_K_lines_103 : decode bb_K_lines 103 = .ok (.getfield 117, 3) := by decide +kernel
theorem dd_K_lines_106 : decode bb_K_lines 106 = .ok (.ireturn, 1) := by decide +kernel

set_option maxHeartbeats 4000000 in
set_option maxRecDepth 100000 in
theorem ct_K_lines_t (l : Launch) (hfl : l.flags = flags0) (D : va_G) (cI cJ cZ : ClassId) (sz : Nat) (x : Nat) (g : Nat) (t : Nat) (h : Nat) (o : Nat) (cn : Nat) (i1 : Nat) (i2 : Nat) (i3 : Nat) (i4 : Nat) (i5 : Nat) (i6 : Nat) (i7 : Nat) (i8 : Nat) (i9 : Nat) (ln : Nat) (ik : Nat → Int32) (ic : Nat → Int32) (if_ : Nat → Int32) (hno : cn = 0 ∨ 400 < 1 + pq_c (pk_br ik ic if_ cn (nI 1)) cn) (hc : cn ≤ ln) (hln : ln < 2 ^ 30) (hnb : 1 + pq_c (pk_br ik ic if_ cn (nI 1)) cn < 2 ^ 30) : vt_Met l yy_K_lines ww_K_lines ({ frames := 6, cells := 1, slots := 6, locals := 88 }) (vt_P D vwCl (kx_ty cI cJ cZ) [.ref x] [(x, .inr (1, [.ref g, .ref t, .ref h, .ref o])), (t, .inr (4, [.int (nI cn), .ref i1, .ref i2, .ref i3, .ref i4, .ref i5, .ref i6, .ref i7, .ref i8, .ref i9])), (i1, .inl (cI, ln, .inl ik)), (i2, .inl (cI, ln, .inl ic)), (i5, .inl (cI, ln, .inl if_))] sz) (vt_Q "java/lang/IllegalStateException" D vwCl (kx_ty cI cJ cZ) (va_A [(x, .inr (1, [.ref g, .ref t, .ref h, .ref o])), (t, .inr (4, [.int (nI cn), .ref i1, .ref i2, .ref i3, .ref i4, .ref i5, .ref i6, .ref i7, .ref i8, .ref i9])), (i1, .inl (cI, ln, .inl ik)), (i2, .inl (cI, ln, .inl ic)), (i5, .inl (cI, ln, .inl if_))] sz) [(x, .inr (1, [.ref g, .ref t, .ref h, .ref o])), (t, .inr (4, [.int (nI cn), .ref i1, .ref i2, .ref i3, .ref i4, .ref i5, .ref i6, .ref i7, .ref i8, .ref i9])), (i1, .inl (cI, ln, .inl ik)), (i2, .inl (cI, ln, .inl ic)), (i5, .inl (cI, ln, .inl if_))]) 1 6 (va_A [(x, .inr (1, [.ref g, .ref t, .ref h, .ref o])), (t, .inr (4, [.int (nI cn), .ref i1, .ref i2, .ref i3, .ref i4, .ref i5, .ref i6, .ref i7, .ref i8, .ref i9])), (i1, .inl (cI, ln, .inl ik)), (i2, .inl (cI, ln, .inl ic)), (i5, .inl (cI, ln, .inl if_))] sz) := by
  refine vt_start (fun A => vt_Q "java/lang/IllegalStateException" D vwCl (kx_ty cI cJ cZ) A [(x, .inr (1, [.ref g, .ref t, .ref h, .ref o])), (t, .inr (4, [.int (nI cn), .ref i1, .ref i2, .ref i3, .ref i4, .ref i5, .ref i6, .ref i7, .ref i8, .ref i9])), (i1, .inl (cI, ln, .inl ik)), (i2, .inl (cI, ln, .inl ic)), (i5, .inl (cI, ln, .inl if_))]) (by decide) rfl (Nat.le_of_ble_eq_true rfl) ?_
  intro p e s m below meth c A ls hx hb hr hml hts hown hlocks hin hno9 hTS hst hP hK hN hD hA hS hl
  have hl : lv_has ls 3 [(0, .ref x)] := hl
  have hown : s.vm.findClass rr_K = some m.cls := hown
  have lk0 := hts _ (kx_m kw_387)
  have hin1 : ∀ w ∈ u_ws rr_K tt_K 4, w ∈ ww_K_lines := fun w h => kx_m (kf_K w h)
  have lk2 := hts _ (kx_m kw_133)
  have hin4 : ∀ w ∈ u_ws rr_It tt_It 10, w ∈ ww_K_lines := fun w h => kx_m (kf_It w h)
  obtain ⟨H, hH⟩ : ∃ H, H = s.heap := ⟨_, rfl⟩
  obtain ⟨locs, hlocs⟩ : ∃ z : List Loc, z = [] := ⟨_, rfl⟩
  have hP : va_P D vwCl [(x, .inr (1, [.ref g, .ref t, .ref h, .ref o])), (t, .inr (4, [.int (nI cn), .ref i1, .ref i2, .ref i3, .ref i4, .ref i5, .ref i6, .ref i7, .ref i8, .ref i9])), (i1, .inl (cI, ln, .inl ik)), (i2, .inl (cI, ln, .inl ic)), (i5, .inl (cI, ln, .inl if_))] H := by rw [hH]; exact hP
  have hS : va_S A s.heap H locs := by rw [hH, hlocs]; exact hS
  refine kx_gen hH hlocs ?_
  clear hH hlocs
  refine kx_nameQ (fun Q hQ => ?_)
  refine lv_aload_n hx hb dd_K_lines_0 rfl (lv_at hl 0 rfl) ?_
  refine va_get (D := D) (ci := 1) (v := .ref t) (C := rr_K) (T := tt_K) (N := 4) hx hb hts hin1 hown hK hP 0 kg_5_0 rfl 1 (by decide) lk0 (fun _ h9 => h9) rfl dd_K_lines_1 ?_
  refine va_get (D := D) (ci := 4) (v := .int (nI cn)) (C := rr_It) (T := tt_It) (N := 10) hx hb hts hin4 hown hK hP 1 kg_5_1 rfl 0 (by decide) lk2 (fun _ h9 => h9) rfl dd_K_lines_4 ?_
  refine lv_if_ne (tgt := 20) hx hb dd_K_lines_7 (by decide) (fun c7 => ?_) (fun c7 => ?_)
  · skip
    have c7 : ¬ (cn = 0) := fun h => c7 ((kn_eq0 (by omega)).mpr h)
    refine lv_aload_n hx hb dd_K_lines_20 rfl (lv_at hl 0 rfl) ?_
    refine va_get (D := D) (ci := 1) (v := .ref t) (C := rr_K) (T := tt_K) (N := 4) hx hb hts hin1 hown hK hP 0 kg_5_0 rfl 1 (by decide) lk0 (fun _ h9 => h9) rfl dd_K_lines_21 ?_
    refine kx_calli (wr := [(x, .inr (1, [.ref g, .ref t, .ref h, .ref o]))]) (va_runV (C := rr_It) (As := []) (rest := []) ⟨hx, hb, hml, hown, hts⟩ (ct_It_countBreaks l D cI cJ cZ H.size t cn i1 i2 i3 i4 i5 i6 i7 i8 i9 ln ik ic if_ (by omega) (by omega)) ⟨(callB_of 0 hts (kx_good kw_587) rfl rfl rfl (hts _ (kx_m kw_47)) (hts _ (kx_m kw_584)) (by decide +kernel) ⟨Nat.le_of_ble_eq_true rfl, Nat.le_of_ble_eq_true rfl⟩), (hts _ (kx_m kw_585)), (hts _ (kx_m kw_586))⟩ (kx_preV (ci := 4) (q0 := 0) hK hN (hP.sub [1, 2, 3, 4] kt_5_1_2_3_4) (hD.sub [1, 2, 3, 4] (by decide) ks_5_1_2_3_4) rfl kg_4_0) rfl rfl hl.1 rfl (lv_room (Nat.le_of_ble_eq_true rfl)) dd_K_lines_24 ⟨(by show 0 + 0 ≤ 1; omega), (by show 0 + 0 ≤ 6; omega)⟩) hP hD hS hA [1, 2, 3, 4] [0] ks_5_1_2_3_4 ks_5_0 (by decide) (by decide) (fun r24 u24 H locs hw24 hP hD hS => ?_)
    refine kx_bud (cells := 0) (slots := 0) ?_ (by omega) (by omega)
    have hP : va_P D vwCl [(x, .inr (1, [.ref g, .ref t, .ref h, .ref o])), (t, .inr (4, [.int (nI cn), .ref i1, .ref i2, .ref i3, .ref i4, .ref i5, .ref i6, .ref i7, .ref i8, .ref i9])), (i1, .inl (cI, ln, .inl ik)), (i2, .inl (cI, ln, .inl ic)), (i5, .inl (cI, ln, .inl if_))] H := hP
    have hD : va_D A [(x, .inr (1, [.ref g, .ref t, .ref h, .ref o])), (t, .inr (4, [.int (nI cn), .ref i1, .ref i2, .ref i3, .ref i4, .ref i5, .ref i6, .ref i7, .ref i8, .ref i9])), (i1, .inl (cI, ln, .inl ik)), (i2, .inl (cI, ln, .inl ic)), (i5, .inl (cI, ln, .inl if_))] := hD
    have hw24 : r24 = nI (1 + pq_c (pk_br ik ic if_ cn (nI 1)) cn) := hw24
    subst hw24
    refine lv_sipush (v := nI 400) hx hb dd_K_lines_27 (by decide) ?_
    refine lv_icmp_le (tgt := 43) hx hb dd_K_lines_30 (by decide) (fun c30 => ?_) (fun c30 => ?_)
    · skip
      have c30 : (1 + pq_c (pk_br ik ic if_ cn (nI 1)) cn) ≤ 400 := (nI_leI (by omega) (by omega)).mp c30
      exact absurd hno (by omega)
    · skip
      have c30 : ¬ ((1 + pq_c (pk_br ik ic if_ cn (nI 1)) cn) ≤ 400) := fun h => c30 ((nI_leI (by omega) (by omega)).mpr h)
      rw [hQ]
      exact vt_thrown (cells := 0) (slots := 0) (ia := 97) (ib := 108) (ic := 101) (tx := "there are too many breaks") (names := ["java/lang/RuntimeException", "java/lang/Exception"]) hfl hx hb hlocks hno9 hml hl.1 hown (hts _ (kx_m kw_517)) (hts _ (kx_m kw_60)) hTS (fun u hv hS9 => vt_own vt_own1 hts hv hS9) (by decide +kernel) (by decide +kernel) (by decide +kernel) dd_K_lines_33 dd_K_lines_36 dd_K_lines_37 dd_K_lines_39 dd_K_lines_42 hS hA hst ⟨Nat.le_of_ble_eq_true rfl, Nat.le_of_ble_eq_true rfl, Nat.le_of_ble_eq_true rfl, Nat.le_of_ble_eq_true rfl⟩ hP hD hK hN
  · skip
    have c7 : cn = 0 := (kn_eq0 (by omega)).mp c7
    rw [hQ]
    exact vt_thrown (cells := 0) (slots := 0) (ia := 97) (ib := 99) (ic := 101) (tx := "there are no items") (names := ["java/lang/RuntimeException", "java/lang/Exception"]) hfl hx hb hlocks hno9 hml hl.1 hown (hts _ (kx_m kw_517)) (hts _ (kx_m kw_60)) hTS (fun u hv hS9 => vt_own vt_own1 hts hv hS9) (by decide +kernel) (by decide +kernel) (by decide +kernel) dd_K_lines_10 dd_K_lines_13 dd_K_lines_14 dd_K_lines_16 dd_K_lines_19 hS hA hst ⟨Nat.le_of_ble_eq_true rfl, Nat.le_of_ble_eq_true rfl, Nat.le_of_ble_eq_true rfl, Nat.le_of_ble_eq_true rfl⟩ hP hD hK hN

theorem dd_K_line_0 : decode bb_K_line 0 = .ok (.iload_n 1, 1) := by decide +kernel
theorem dd_K_line_1 : decode bb_K_line 1 = .ok (.iconst 1, 1) := by decide +kernel
theorem dd_K_line_2 : decode bb_K_line 2 = .ok (.if_icmp .lt (14), 3) := by decide +kernel
theorem dd_K_line_5 : decode bb_K_line 5 = .ok (.iload_n 1, 1) := by decide +kernel
theorem dd_K_line_6 : decode bb_K_line 6 = .ok (.aload_n 0, 1) := by decide +kernel
theorem dd_K_line_7 : decode bb_K_line 7 = .ok (.getfield 35, 3) := by decide +kernel
theorem dd_K_line_10 : decode bb_K_line 10 = .ok (.getfield 117, 3) := by decide +kernel
theorem dd_K_line_13 : decode bb_K_line 13 = .ok (.if_icmp .le (13), 3) := by decide +kernel
theorem dd_K_line_16 : decode bb_K_line 16 = .ok (.new 118, 3) := by decide +kernel
theorem dd_K_line_19 : decode bb_K_line 19 = .ok (.dup, 1) := by decide +kernel
theorem dd_K_line_20 : decode bb_K_line 20 = .ok (.ldc 120, 2) := by decide +kernel
theorem dd_K_line_22 : decode bb_K_line 22 = .ok (.invokespecial 122, 3) := by decide +kernel
theorem dd_K_line_25 : decode bb_K_line 25 = .ok (.athrow, 1) := by decide +kernel
theorem dd_K_line_26 : decode bb_K_line 26 = .ok (.iload_n 2, 1) := by decide +kernel
theorem dd_K_line_27 : decode bb_K_line 27 = .ok (.tableswitch (93) (0) (4) #[33, 45, 57, 69, 81], 33) := by decide +kernel
theorem dd_K_line_60 : decode bb_K_line 60 = .ok (.aload_n 0, 1) := by decide +kernel
theorem dd_K_line_61 : decode bb_K_line 61 = .ok (.getfield 35, 3) := by decide +kernel
theorem dd_K_line_64 : decode bb_K_line 64 = .ok (.getfield 123, 3) := by decide +kernel
theorem dd_K_line_67 : decode bb_K_line 67 = .ok (.iload_n 1, 1) := by decide +kernel
theorem dd_K_line_68 : decode bb_K_line 68 = .ok (.iconst 1, 1) := by decide +kernel
theorem dd_K_line_69 : decode bb_K_line 69 = .ok (.isub, 1) := by decide +kernel
theorem dd_K_line_70 : decode bb_K_line 70 = .ok (.iaload, 1) := by decide +kernel
theorem dd_K_line_71 : decode bb_K_line 71 = .ok (.ireturn, 1) := by decide +kernel
theorem dd_K_line_72 : decode bb_K_line 72 = .ok (.aload_n 0, 1) := by decide +kernel
theorem dd_K_line_73 : decode bb_K_line 73 = .ok (.getfield 35, 3) := by decide +kernel
theorem dd_K_line_76 : decode bb_K_line 76 = .ok (.getfield 126, 3) := by decide +kernel
theorem dd_K_line_79 : decode bb_K_line 79 = .ok (.iload_n 1, 1) := by decide +kernel
theorem dd_K_line_80 : decode bb_K_line 80 = .ok (.iconst 1, 1) := by decide +kernel
theorem dd_K_line_81 : decode bb_K_line 81 = .ok (.isub, 1) := by decide +kernel
theorem dd_K_line_82 : decode bb_K_line 82 = .ok (.iaload, 1) := by decide +kernel
theorem dd_K_line_83 : decode bb_K_line 83 = .ok (.ireturn, 1) := by decide +kernel
theorem dd_K_line_84 : decode bb_K_line 84 = .ok (.aload_n 0, 1) := by decide +kernel
theorem dd_K_line_85 : decode bb_K_line 85 = .ok (.getfield 35, 3) := by decide +kernel
theorem dd_K_line_88 : decode bb_K_line 88 = .ok (.getfield 129, 3) := by decide +kernel
theorem dd_K_line_91 : decode bb_K_line 91 = .ok (.iload_n 1, 1) := by decide +kernel
theorem dd_K_line_92 : decode bb_K_line 92 = .ok (.iconst 1, 1) := by decide +kernel
theorem dd_K_line_93 : decode bb_K_line 93 = .ok (.isub, 1) := by decide +kernel
theorem dd_K_line_94 : decode bb_K_line 94 = .ok (.iaload, 1) := by decide +kernel
theorem dd_K_line_95 : decode bb_K_line 95 = .ok (.ireturn, 1) := by decide +kernel
theorem dd_K_line_96 : decode bb_K_line 96 = .ok (.aload_n 0, 1) := by decide +kernel
theorem dd_K_line_97 : decode bb_K_line 97 = .ok (.getfield 35, 3) := by decide +kernel
theorem dd_K_line_100 : decode bb_K_line 100 = .ok (.getfield 132, 3) := by decide +kernel
theorem dd_K_line_103 : decode bb_K_line 103 = .ok (.iload_n 1, 1) := by decide +kernel
theorem dd_K_line_104 : decode bb_K_line 104 = .ok (.iconst 1, 1) := by decide +kernel
theorem dd_K_line_105 : decode bb_K_line 105 = .ok (.isub, 1) := by decide +kernel
theorem dd_K_line_106 : decode bb_K_line 106 = .ok (.iaload, 1) := by decide +kernel
theorem dd_K_line_107 : decode bb_K_line 107 = .ok (.ireturn, 1) := by decide +kernel
theorem dd_K_line_108 : decode bb_K_line 108 = .ok (.aload_n 0, 1) := by decide +kernel
theorem dd_K_line_109 : decode bb_K_line 109 = .ok (.getfield 35, 3) := by decide +kernel
theorem dd_K_line_112 : decode bb_K_line 112 = .ok (.getfield 135, 3) := by decide +kernel
theorem dd_K_line_115 : decode bb_K_line 115 = .ok (.iload_n 1, 1) := by decide +kernel
theorem dd_K_line_116 : decode bb_K_line 116 = .ok (.iconst 1, 1) := by decide +kernel
theorem dd_K_line_117 : decode bb_K_line 117 = .ok (.isub, 1) := by decide +kernel
theorem dd_K_line_118 : decode bb_K_line 118 = .ok (.iaload, 1) := by decide +kernel
theorem dd_K_line_119 : decode bb_K_line 119 = .ok (.ireturn, 1) := by decide +kernel
theorem dd_K_line_120 : decode bb_K_line 120 = .ok (.new 118, 3) := by decide +kernel
theorem dd_K_line_123 : decode bb_K_line 123 = .ok (.dup, 1) := by decide +kernel
theorem dd_K_line_124 : decode bb_K_line 124 = .ok (.ldc 138, 2) := by decide +kernel
theorem dd_K_line_126 : decode bb_K_line 126 = .ok (.invokespecial 122, 3) := by decide +kernel
theorem dd_K_line_129 : decode bb_K_line 129 = .ok (.athrow, 1) := by decide +kernel

set_option maxHeartbeats 4000000 in
set_option maxRecDepth 100000 in
theorem ct_K_line_t (l : Launch) (hfl : l.flags = flags0) (D : va_G) (cI cJ cZ : ClassId) (sz : Nat) (x : Nat) (g : Nat) (t : Nat) (h : Nat) (o : Nat) (mp : Nat) (ml : Nat) (mv : Int32) (md : Int64) (mo : Int64) (y0 : Nat) (y1 : Nat) (y2 : Nat) (y3 : Nat) (y4 : Nat) (k9 : Int32) (w9 : Int32) (hno : ¬ (pm_in k9 (nI 1) (nI ml) ∧ pm_in w9 (nI 0) (nI 4))) : vt_Met l yy_K_line ww_K_line ({ frames := 6, cells := 1, slots := 6, locals := 82 }) (vt_P D vwCl (kx_ty cI cJ cZ) [.ref x, .int k9, .int w9] [(x, .inr (1, [.ref g, .ref t, .ref h, .ref o])), (o, .inr (5, [.int (nI mp), .int (nI ml), .int mv, .long md, .long mo, .ref y0, .ref y1, .ref y2, .ref y3, .ref y4]))] sz) (vt_Q "java/lang/IndexOutOfBoundsException" D vwCl (kx_ty cI cJ cZ) (va_A [(x, .inr (1, [.ref g, .ref t, .ref h, .ref o])), (o, .inr (5, [.int (nI mp), .int (nI ml), .int mv, .long md, .long mo, .ref y0, .ref y1, .ref y2, .ref y3, .ref y4]))] sz) [(x, .inr (1, [.ref g, .ref t, .ref h, .ref o])), (o, .inr (5, [.int (nI mp), .int (nI ml), .int mv, .long md, .long mo, .ref y0, .ref y1, .ref y2, .ref y3, .ref y4]))]) 1 6 (va_A [(x, .inr (1, [.ref g, .ref t, .ref h, .ref o])), (o, .inr (5, [.int (nI mp), .int (nI ml), .int mv, .long md, .long mo, .ref y0, .ref y1, .ref y2, .ref y3, .ref y4]))] sz) := by
  refine vt_start (fun A => vt_Q "java/lang/IndexOutOfBoundsException" D vwCl (kx_ty cI cJ cZ) A [(x, .inr (1, [.ref g, .ref t, .ref h, .ref o])), (o, .inr (5, [.int (nI mp), .int (nI ml), .int mv, .long md, .long mo, .ref y0, .ref y1, .ref y2, .ref y3, .ref y4]))]) (by decide) rfl (Nat.le_of_ble_eq_true rfl) ?_
  intro p e s m below meth c A ls hx hb hr hml hts hown hlocks hin hno9 hTS hst hP hK hN hD hA hS hl
  have hl : lv_has ls 3 [(0, .ref x), (1, .int k9), (2, .int w9)] := hl
  have hown : s.vm.findClass rr_K = some m.cls := hown
  have lk0 := hts _ (kx_m kw_389)
  have hin1 : ∀ w ∈ u_ws rr_K tt_K 4, w ∈ ww_K_line := fun w h => kx_m (kf_K w h)
  have lk2 := hts _ (kx_m kw_346)
  have hin5 : ∀ w ∈ u_ws rr_Md tt_Md 10, w ∈ ww_K_line := fun w h => kx_m (kf_Md w h)
  obtain ⟨H, hH⟩ : ∃ H, H = s.heap := ⟨_, rfl⟩
  obtain ⟨locs, hlocs⟩ : ∃ z : List Loc, z = [] := ⟨_, rfl⟩
  have hP : va_P D vwCl [(x, .inr (1, [.ref g, .ref t, .ref h, .ref o])), (o, .inr (5, [.int (nI mp), .int (nI ml), .int mv, .long md, .long mo, .ref y0, .ref y1, .ref y2, .ref y3, .ref y4]))] H := by rw [hH]; exact hP
  have hS : va_S A s.heap H locs := by rw [hH, hlocs]; exact hS
  refine kx_gen hH hlocs ?_
  clear hH hlocs
  refine kx_nameQ (fun Q hQ => ?_)
  refine lv_iload_n hx hb dd_K_line_0 rfl (lv_at hl 1 rfl) ?_
  refine lv_iconst (v := nI 1) hx hb dd_K_line_1 (by decide) ?_
  refine lv_icmp_lt (tgt := 16) hx hb dd_K_line_2 (by decide) (fun c2 => ?_) (fun c2 => ?_)
  · skip
    rw [hQ]
    exact vt_thrown (cells := 0) (slots := 0) (ia := 118) (ib := 120) (ic := 122) (tx := "there is no such line") (names := ["java/lang/RuntimeException", "java/lang/Exception"]) hfl hx hb hlocks hno9 hml hl.1 hown (hts _ (kx_m kw_774)) (hts _ (kx_m kw_61)) hTS (fun u hv hS9 => vt_own vt_own2 hts hv hS9) (by decide +kernel) (by decide +kernel) (by decide +kernel) dd_K_line_16 dd_K_line_19 dd_K_line_20 dd_K_line_22 dd_K_line_25 hS hA hst ⟨Nat.le_of_ble_eq_true rfl, Nat.le_of_ble_eq_true rfl, Nat.le_of_ble_eq_true rfl, Nat.le_of_ble_eq_true rfl⟩ hP hD hK hN
  · skip
    refine lv_iload_n hx hb dd_K_line_5 rfl (lv_at hl 1 rfl) ?_
    refine lv_aload_n hx hb dd_K_line_6 rfl (lv_at hl 0 rfl) ?_
    refine va_get (D := D) (ci := 1) (v := .ref o) (C := rr_K) (T := tt_K) (N := 4) hx hb hts hin1 hown hK hP 0 kg_2_0 rfl 3 (by decide) lk0 (fun _ h9 => h9) rfl dd_K_line_7 ?_
    refine va_get (D := D) (ci := 5) (v := .int (nI ml)) (C := rr_Md) (T := tt_Md) (N := 10) hx hb hts hin5 hown hK hP 1 kg_2_1 rfl 1 (by decide) lk2 (fun _ h9 => h9) rfl dd_K_line_10 ?_
    refine lv_icmp_le (tgt := 26) hx hb dd_K_line_13 (by decide) (fun c13 => ?_) (fun c13 => ?_)
    · skip
      refine lv_iload_n hx hb dd_K_line_26 rfl (lv_at hl 2 rfl) ?_
      by_cases t27_0 : w9 = nI 0
      · skip
        refine kx_toN (n := 0) t27_0 ?_
        refine lv_tableIn (off := (33)) (tgt := 60) hx hb dd_K_line_27 (by decide +kernel) (by decide +kernel) (by decide +kernel) (by decide) ?_
        exact absurd ⟨⟨c2, Int32.not_lt.mpr c13⟩, by rw [t27_0]; decide⟩ hno
      by_cases t27_1 : w9 = nI 1
      · skip
        refine kx_toN (n := 1) t27_1 ?_
        refine lv_tableIn (off := (45)) (tgt := 72) hx hb dd_K_line_27 (by decide +kernel) (by decide +kernel) (by decide +kernel) (by decide) ?_
        exact absurd ⟨⟨c2, Int32.not_lt.mpr c13⟩, by rw [t27_1]; decide⟩ hno
      by_cases t27_2 : w9 = nI 2
      · skip
        refine kx_toN (n := 2) t27_2 ?_
        refine lv_tableIn (off := (57)) (tgt := 84) hx hb dd_K_line_27 (by decide +kernel) (by decide +kernel) (by decide +kernel) (by decide) ?_
        exact absurd ⟨⟨c2, Int32.not_lt.mpr c13⟩, by rw [t27_2]; decide⟩ hno
      by_cases t27_3 : w9 = nI 3
      · skip
        refine kx_toN (n := 3) t27_3 ?_
        refine lv_tableIn (off := (69)) (tgt := 96) hx hb dd_K_line_27 (by decide +kernel) (by decide +kernel) (by decide +kernel) (by decide) ?_
        exact absurd ⟨⟨c2, Int32.not_lt.mpr c13⟩, by rw [t27_3]; decide⟩ hno
      by_cases t27_4 : w9 = nI 4
      · skip
        refine kx_toN (n := 4) t27_4 ?_
        refine lv_tableIn (off := (81)) (tgt := 108) hx hb dd_K_line_27 (by decide +kernel) (by decide +kernel) (by decide +kernel) (by decide) ?_
        exact absurd ⟨⟨c2, Int32.not_lt.mpr c13⟩, by rw [t27_4]; decide⟩ hno
      refine lv_tableOut (tgt := 120) hx hb dd_K_line_27 (by have := lv_neT t27_0 (a := 0) (by decide +kernel); have := lv_neT t27_1 (a := 1) (by decide +kernel); have := lv_neT t27_2 (a := 2) (by decide +kernel); have := lv_neT t27_3 (a := 3) (by decide +kernel); have := lv_neT t27_4 (a := 4) (by decide +kernel); omega) (by decide) ?_
      rw [hQ]
      exact vt_thrown (cells := 0) (slots := 0) (ia := 118) (ib := 138) (ic := 122) (tx := "there is no such what") (names := ["java/lang/RuntimeException", "java/lang/Exception"]) hfl hx hb hlocks hno9 hml hl.1 hown (hts _ (kx_m kw_774)) (hts _ (kx_m kw_61)) hTS (fun u hv hS9 => vt_own vt_own2 hts hv hS9) (by decide +kernel) (by decide +kernel) (by decide +kernel) dd_K_line_120 dd_K_line_123 dd_K_line_124 dd_K_line_126 dd_K_line_129 hS hA hst ⟨Nat.le_of_ble_eq_true rfl, Nat.le_of_ble_eq_true rfl, Nat.le_of_ble_eq_true rfl, Nat.le_of_ble_eq_true rfl⟩ hP hD hK hN
    · skip
      rw [hQ]
      exact vt_thrown (cells := 0) (slots := 0) (ia := 118) (ib := 120) (ic := 122) (tx := "there is no such line") (names := ["java/lang/RuntimeException", "java/lang/Exception"]) hfl hx hb hlocks hno9 hml hl.1 hown (hts _ (kx_m kw_774)) (hts _ (kx_m kw_61)) hTS (fun u hv hS9 => vt_own vt_own2 hts hv hS9) (by decide +kernel) (by decide +kernel) (by decide +kernel) dd_K_line_16 dd_K_line_19 dd_K_line_20 dd_K_line_22 dd_K_line_25 hS hA hst ⟨Nat.le_of_ble_eq_true rfl, Nat.le_of_ble_eq_true rfl, Nat.le_of_ble_eq_true rfl, Nat.le_of_ble_eq_true rfl⟩ hP hD hK hN


set_option maxHeartbeats 4000000 in
set_option maxRecDepth 100000 in
theorem ct_K_line (l : Launch) (D : va_G) (cI cJ cZ : ClassId) (sz : Nat) (x : Nat) (g : Nat) (t : Nat) (h : Nat) (o : Nat) (mp : Nat) (ml : Nat) (mv : Int32) (md : Int64) (mo : Int64) (y0 : Nat) (y1 : Nat) (y2 : Nat) (y3 : Nat) (y4 : Nat) (ld : Nat) (f0 : Nat → Int32) (f1 : Nat → Int32) (f2 : Nat → Int32) (f3 : Nat → Int32) (f4 : Nat → Int32) (k9 : Nat) (w9 : Int32) (h1 : 1 ≤ k9) (h2 : k9 ≤ ml) (h3 : ml ≤ ld) (h4 : ld < 2 ^ 30) (h5 : pm_in w9 (nI 0) (nI 4)) : kx_Mi l yy_K_line ww_K_line ({ frames := 0, cells := 0, slots := 0, locals := 0 }) D vwCl (kx_ty cI cJ cZ) [.ref x, .int (nI k9), .int w9] [(x, .inr (1, [.ref g, .ref t, .ref h, .ref o])), (o, .inr (5, [.int (nI mp), .int (nI ml), .int mv, .long md, .long mo, .ref y0, .ref y1, .ref y2, .ref y3, .ref y4])), (y0, .inl (cI, ld, .inl f0)), (y1, .inl (cI, ld, .inl f1)), (y2, .inl (cI, ld, .inl f2)), (y3, .inl (cI, ld, .inl f3)), (y4, .inl (cI, ld, .inl f4))] sz (fun (r : Int32) (u : Unit) => r = pm_kl f0 f1 f2 f3 f4 k9 w9) (fun (u : Unit) => [(x, .inr (1, [.ref g, .ref t, .ref h, .ref o])), (o, .inr (5, [.int (nI mp), .int (nI ml), .int mv, .long md, .long mo, .ref y0, .ref y1, .ref y2, .ref y3, .ref y4])), (y0, .inl (cI, ld, .inl f0)), (y1, .inl (cI, ld, .inl f1)), (y2, .inl (cI, ld, .inl f2)), (y3, .inl (cI, ld, .inl f3)), (y4, .inl (cI, ld, .inl f4))]) 0 0 := by
  refine kx_starti (by decide) rfl (Nat.le_of_ble_eq_true rfl) ?_
  intro p e s m below meth c A ls hx hb hr hml hts hown hlocks hin hP hK hN hD hA hS hl
  have hl : lv_has ls 3 [(0, .ref x), (1, .int (nI k9)), (2, .int w9)] := hl
  have hown : s.vm.findClass rr_K = some m.cls := hown
  have lk0 := hts _ (kx_m kw_389)
  have hin1 : ∀ w ∈ u_ws rr_K tt_K 4, w ∈ ww_K_line := fun w h => kx_m (kf_K w h)
  have lk2 := hts _ (kx_m kw_346)
  have hin5 : ∀ w ∈ u_ws rr_Md tt_Md 10, w ∈ ww_K_line := fun w h => kx_m (kf_Md w h)
  have lk4 := hts _ (kx_m kw_356)
  have lk5 := hts _ (kx_m kw_358)
  have lk6 := hts _ (kx_m kw_360)
  have lk7 := hts _ (kx_m kw_362)
  have lk8 := hts _ (kx_m kw_364)
  obtain ⟨H, hH⟩ : ∃ H, H = s.heap := ⟨_, rfl⟩
  obtain ⟨locs, hlocs⟩ : ∃ z : List Loc, z = [] := ⟨_, rfl⟩
  have hP : va_P D vwCl [(x, .inr (1, [.ref g, .ref t, .ref h, .ref o])), (o, .inr (5, [.int (nI mp), .int (nI ml), .int mv, .long md, .long mo, .ref y0, .ref y1, .ref y2, .ref y3, .ref y4])), (y0, .inl (cI, ld, .inl f0)), (y1, .inl (cI, ld, .inl f1)), (y2, .inl (cI, ld, .inl f2)), (y3, .inl (cI, ld, .inl f3)), (y4, .inl (cI, ld, .inl f4))] H := by rw [hH]; exact hP
  have hS : va_S A s.heap H locs := by rw [hH, hlocs]; exact hS
  refine kx_gen hH hlocs ?_
  clear hH hlocs
  refine kx_nameQ (fun Q hQ => ?_)
  refine lv_iload_n hx hb dd_K_line_0 rfl (lv_at hl 1 rfl) ?_
  refine lv_iconst (v := nI 1) hx hb dd_K_line_1 (by decide) ?_
  refine lv_icmp_lt (tgt := 16) hx hb dd_K_line_2 (by decide) (fun c2 => ?_) (fun c2 => ?_)
  · skip
    have c2 : k9 < 1 := (nI_ltI (by omega) (by omega)).mp c2
    exact absurd c2 (by omega)
  · skip
    have c2 : ¬ (k9 < 1) := fun h => c2 ((nI_ltI (by omega) (by omega)).mpr h)
    refine lv_iload_n hx hb dd_K_line_5 rfl (lv_at hl 1 rfl) ?_
    refine lv_aload_n hx hb dd_K_line_6 rfl (lv_at hl 0 rfl) ?_
    refine va_get (D := D) (ci := 1) (v := .ref o) (C := rr_K) (T := tt_K) (N := 4) hx hb hts hin1 hown hK hP 0 kg_7_0 rfl 3 (by decide) lk0 (fun _ h9 => h9) rfl dd_K_line_7 ?_
    refine va_get (D := D) (ci := 5) (v := .int (nI ml)) (C := rr_Md) (T := tt_Md) (N := 10) hx hb hts hin5 hown hK hP 1 kg_7_1 rfl 1 (by decide) lk2 (fun _ h9 => h9) rfl dd_K_line_10 ?_
    refine lv_icmp_le (tgt := 26) hx hb dd_K_line_13 (by decide) (fun c13 => ?_) (fun c13 => ?_)
    · skip
      have c13 : k9 ≤ ml := (nI_leI (by omega) (by omega)).mp c13
      refine lv_iload_n hx hb dd_K_line_26 rfl (lv_at hl 2 rfl) ?_
      by_cases t27_0 : w9 = nI 0
      · skip
        refine kx_toN (n := 0) t27_0 ?_
        refine lv_tableIn (off := (33)) (tgt := 60) hx hb dd_K_line_27 (by decide +kernel) (by decide +kernel) (by decide +kernel) (by decide) ?_
        refine lv_aload_n hx hb dd_K_line_60 rfl (lv_at hl 0 rfl) ?_
        refine va_get (D := D) (ci := 1) (v := .ref o) (C := rr_K) (T := tt_K) (N := 4) hx hb hts hin1 hown hK hP 0 kg_7_0 rfl 3 (by decide) lk0 (fun _ h9 => h9) rfl dd_K_line_61 ?_
        refine va_get (D := D) (ci := 5) (v := .ref y0) (C := rr_Md) (T := tt_Md) (N := 10) hx hb hts hin5 hown hK hP 1 kg_7_1 rfl 5 (by decide) lk4 (fun _ h9 => h9) rfl dd_K_line_64 ?_
        refine lv_iload_n hx hb dd_K_line_67 rfl (lv_at hl 1 rfl) ?_
        refine lv_iconst (v := nI 1) hx hb dd_K_line_68 (by decide) ?_
        refine kx_isub hx hb dd_K_line_69 (by omega) ?_
        refine kx_iald (q0 := 2) (t0 := 0) hx hb dd_K_line_70 hK hP kg_7_2 rfl (by omega) (by omega) ?_
        rw [hQ]
        exact kx_iret hx hb hr hlocks hK hN hS dd_K_line_71 () hP hD (by unfold pm_kl; (simp only [c2, c13, t27_0, if_true, if_false]) <;> first | rfl | decide)
      by_cases t27_1 : w9 = nI 1
      · skip
        refine kx_toN (n := 1) t27_1 ?_
        refine lv_tableIn (off := (45)) (tgt := 72) hx hb dd_K_line_27 (by decide +kernel) (by decide +kernel) (by decide +kernel) (by decide) ?_
        refine lv_aload_n hx hb dd_K_line_72 rfl (lv_at hl 0 rfl) ?_
        refine va_get (D := D) (ci := 1) (v := .ref o) (C := rr_K) (T := tt_K) (N := 4) hx hb hts hin1 hown hK hP 0 kg_7_0 rfl 3 (by decide) lk0 (fun _ h9 => h9) rfl dd_K_line_73 ?_
        refine va_get (D := D) (ci := 5) (v := .ref y1) (C := rr_Md) (T := tt_Md) (N := 10) hx hb hts hin5 hown hK hP 1 kg_7_1 rfl 6 (by decide) lk5 (fun _ h9 => h9) rfl dd_K_line_76 ?_
        refine lv_iload_n hx hb dd_K_line_79 rfl (lv_at hl 1 rfl) ?_
        refine lv_iconst (v := nI 1) hx hb dd_K_line_80 (by decide) ?_
        refine kx_isub hx hb dd_K_line_81 (by omega) ?_
        refine kx_iald (q0 := 3) (t0 := 0) hx hb dd_K_line_82 hK hP kg_7_3 rfl (by omega) (by omega) ?_
        rw [hQ]
        exact kx_iret hx hb hr hlocks hK hN hS dd_K_line_83 () hP hD (by unfold pm_kl; (simp only [c2, c13, t27_0, t27_1, if_true, if_false]) <;> first | rfl | decide)
      by_cases t27_2 : w9 = nI 2
      · skip
        refine kx_toN (n := 2) t27_2 ?_
        refine lv_tableIn (off := (57)) (tgt := 84) hx hb dd_K_line_27 (by decide +kernel) (by decide +kernel) (by decide +kernel) (by decide) ?_
        refine lv_aload_n hx hb dd_K_line_84 rfl (lv_at hl 0 rfl) ?_
        refine va_get (D := D) (ci := 1) (v := .ref o) (C := rr_K) (T := tt_K) (N := 4) hx hb hts hin1 hown hK hP 0 kg_7_0 rfl 3 (by decide) lk0 (fun _ h9 => h9) rfl dd_K_line_85 ?_
        refine va_get (D := D) (ci := 5) (v := .ref y2) (C := rr_Md) (T := tt_Md) (N := 10) hx hb hts hin5 hown hK hP 1 kg_7_1 rfl 7 (by decide) lk6 (fun _ h9 => h9) rfl dd_K_line_88 ?_
        refine lv_iload_n hx hb dd_K_line_91 rfl (lv_at hl 1 rfl) ?_
        refine lv_iconst (v := nI 1) hx hb dd_K_line_92 (by decide) ?_
        refine kx_isub hx hb dd_K_line_93 (by omega) ?_
        refine kx_iald (q0 := 4) (t0 := 0) hx hb dd_K_line_94 hK hP kg_7_4 rfl (by omega) (by omega) ?_
        rw [hQ]
        exact kx_iret hx hb hr hlocks hK hN hS dd_K_line_95 () hP hD (by unfold pm_kl; (simp only [c2, c13, t27_0, t27_1, t27_2, if_true, if_false]) <;> first | rfl | decide)
      by_cases t27_3 : w9 = nI 3
      · skip
        refine kx_toN (n := 3) t27_3 ?_
        refine lv_tableIn (off := (69)) (tgt := 96) hx hb dd_K_line_27 (by decide +kernel) (by decide +kernel) (by decide +kernel) (by decide) ?_
        refine lv_aload_n hx hb dd_K_line_96 rfl (lv_at hl 0 rfl) ?_
        refine va_get (D := D) (ci := 1) (v := .ref o) (C := rr_K) (T := tt_K) (N := 4) hx hb hts hin1 hown hK hP 0 kg_7_0 rfl 3 (by decide) lk0 (fun _ h9 => h9) rfl dd_K_line_97 ?_
        refine va_get (D := D) (ci := 5) (v := .ref y3) (C := rr_Md) (T := tt_Md) (N := 10) hx hb hts hin5 hown hK hP 1 kg_7_1 rfl 8 (by decide) lk7 (fun _ h9 => h9) rfl dd_K_line_100 ?_
        refine lv_iload_n hx hb dd_K_line_103 rfl (lv_at hl 1 rfl) ?_
        refine lv_iconst (v := nI 1) hx hb dd_K_line_104 (by decide) ?_
        refine kx_isub hx hb dd_K_line_105 (by omega) ?_
        refine kx_iald (q0 := 5) (t0 := 0) hx hb dd_K_line_106 hK hP kg_7_5 rfl (by omega) (by omega) ?_
        rw [hQ]
        exact kx_iret hx hb hr hlocks hK hN hS dd_K_line_107 () hP hD (by unfold pm_kl; (simp only [c2, c13, t27_0, t27_1, t27_2, t27_3, if_true, if_false]) <;> first | rfl | decide)
      by_cases t27_4 : w9 = nI 4
      · skip
        refine kx_toN (n := 4) t27_4 ?_
        refine lv_tableIn (off := (81)) (tgt := 108) hx hb dd_K_line_27 (by decide +kernel) (by decide +kernel) (by decide +kernel) (by decide) ?_
        refine lv_aload_n hx hb dd_K_line_108 rfl (lv_at hl 0 rfl) ?_
        refine va_get (D := D) (ci := 1) (v := .ref o) (C := rr_K) (T := tt_K) (N := 4) hx hb hts hin1 hown hK hP 0 kg_7_0 rfl 3 (by decide) lk0 (fun _ h9 => h9) rfl dd_K_line_109 ?_
        refine va_get (D := D) (ci := 5) (v := .ref y4) (C := rr_Md) (T := tt_Md) (N := 10) hx hb hts hin5 hown hK hP 1 kg_7_1 rfl 9 (by decide) lk8 (fun _ h9 => h9) rfl dd_K_line_112 ?_
        refine lv_iload_n hx hb dd_K_line_115 rfl (lv_at hl 1 rfl) ?_
        refine lv_iconst (v := nI 1) hx hb dd_K_line_116 (by decide) ?_
        refine kx_isub hx hb dd_K_line_117 (by omega) ?_
        refine kx_iald (q0 := 6) (t0 := 0) hx hb dd_K_line_118 hK hP kg_7_6 rfl (by omega) (by omega) ?_
        rw [hQ]
        exact kx_iret hx hb hr hlocks hK hN hS dd_K_line_119 () hP hD (by unfold pm_kl; (simp only [c2, c13, t27_0, t27_1, t27_2, t27_3, t27_4, if_true, if_false]) <;> first | rfl | decide)
      refine lv_tableOut (tgt := 120) hx hb dd_K_line_27 (by have := lv_neT t27_0 (a := 0) (by decide +kernel); have := lv_neT t27_1 (a := 1) (by decide +kernel); have := lv_neT t27_2 (a := 2) (by decide +kernel); have := lv_neT t27_3 (a := 3) (by decide +kernel); have := lv_neT t27_4 (a := 4) (by decide +kernel); omega) (by decide) ?_
      exact absurd h5 (pm_k5 t27_0 t27_1 t27_2 t27_3 t27_4)
    · skip
      have c13 : ¬ (k9 ≤ ml) := fun h => c13 ((nI_leI (by omega) (by omega)).mpr h)
      exact absurd h2 c13
