theorem kt_10_1_6 {c0 c1 c2 c3 c4 c5 c6 c7 c8 c9 : Nat × va_E} : ([1, 6] : List Nat).filterMap (fun i => ([c0, c1, c2, c3, c4, c5, c6, c7, c8, c9] : va_W)[i]?) = ([c1, c6] : va_W) := rfl
theorem ks_10_1_6 {c0 c1 c2 c3 c4 c5 c6 c7 c8 c9 : Nat × va_E} : ([1, 6] : List Nat).map (fun i => ([c0, c1, c2, c3, c4, c5, c6, c7, c8, c9] : va_W)[i]?) = ([c1, c6] : va_W).map some := rfl
theorem ks_10_0_2_3_4_5_7_8_9 {c0 c1 c2 c3 c4 c5 c6 c7 c8 c9 : Nat × va_E} : ([0, 2, 3, 4, 5, 7, 8, 9] : List Nat).map (fun i => ([c0, c1, c2, c3, c4, c5, c6, c7, c8, c9] : va_W)[i]?) = ([c0, c2, c3, c4, c5, c7, c8, c9] : va_W).map some := rfl
theorem kt_10_0_8_1_2_3_4_9_5_6_7 {c0 c1 c2 c3 c4 c5 c6 c7 c8 c9 : Nat × va_E} : ([0, 8, 1, 2, 3, 4, 9, 5, 6, 7] : List Nat).filterMap (fun i => ([c0, c1, c2, c3, c4, c5, c6, c7, c8, c9] : va_W)[i]?) = ([c0, c8, c1, c2, c3, c4, c9, c5, c6, c7] : va_W) := rfl
theorem ks_10_0_8_1_2_3_4_9_5_6_7 {c0 c1 c2 c3 c4 c5 c6 c7 c8 c9 : Nat × va_E} : ([0, 8, 1, 2, 3, 4, 9, 5, 6, 7] : List Nat).map (fun i => ([c0, c1, c2, c3, c4, c5, c6, c7, c8, c9] : va_W)[i]?) = ([c0, c8, c1, c2, c3, c4, c9, c5, c6, c7] : va_W).map some := rfl
theorem kg_10_0 {c0 c1 c2 c3 c4 c5 c6 c7 c8 c9 : Nat × va_E} : ([c0, c1, c2, c3, c4, c5, c6, c7, c8, c9] : va_W)[0]? = some c0 := rfl
theorem kg_10_1 {c0 c1 c2 c3 c4 c5 c6 c7 c8 c9 : Nat × va_E} : ([c0, c1, c2, c3, c4, c5, c6, c7, c8, c9] : va_W)[1]? = some c1 := rfl
theorem kg_10_7 {c0 c1 c2 c3 c4 c5 c6 c7 c8 c9 : Nat × va_E} : ([c0, c1, c2, c3, c4, c5, c6, c7, c8, c9] : va_W)[7]? = some c7 := rfl
theorem kg_10_2 {c0 c1 c2 c3 c4 c5 c6 c7 c8 c9 : Nat × va_E} : ([c0, c1, c2, c3, c4, c5, c6, c7, c8, c9] : va_W)[2]? = some c2 := rfl
theorem kz_10_2 {c0 c1 c2 c3 c4 c5 c6 c7 c8 c9 : Nat × va_E} {x : Nat × va_E} : ([c0, c1, c2, c3, c4, c5, c6, c7, c8, c9] : va_W).set 2 x = [c0, c1, x, c3, c4, c5, c6, c7, c8, c9] := rfl
theorem kg_10_8 {c0 c1 c2 c3 c4 c5 c6 c7 c8 c9 : Nat × va_E} : ([c0, c1, c2, c3, c4, c5, c6, c7, c8, c9] : va_W)[8]? = some c8 := rfl
theorem kg_10_3 {c0 c1 c2 c3 c4 c5 c6 c7 c8 c9 : Nat × va_E} : ([c0, c1, c2, c3, c4, c5, c6, c7, c8, c9] : va_W)[3]? = some c3 := rfl
theorem kz_10_3 {c0 c1 c2 c3 c4 c5 c6 c7 c8 c9 : Nat × va_E} {x : Nat × va_E} : ([c0, c1, c2, c3, c4, c5, c6, c7, c8, c9] : va_W).set 3 x = [c0, c1, c2, x, c4, c5, c6, c7, c8, c9] := rfl
theorem kg_10_5 {c0 c1 c2 c3 c4 c5 c6 c7 c8 c9 : Nat × va_E} : ([c0, c1, c2, c3, c4, c5, c6, c7, c8, c9] : va_W)[5]? = some c5 := rfl
theorem kz_10_5 {c0 c1 c2 c3 c4 c5 c6 c7 c8 c9 : Nat × va_E} {x : Nat × va_E} : ([c0, c1, c2, c3, c4, c5, c6, c7, c8, c9] : va_W).set 5 x = [c0, c1, c2, c3, c4, x, c6, c7, c8, c9] := rfl
theorem kt_10_1_6_9 {c0 c1 c2 c3 c4 c5 c6 c7 c8 c9 : Nat × va_E} : ([1, 6, 9] : List Nat).filterMap (fun i => ([c0, c1, c2, c3, c4, c5, c6, c7, c8, c9] : va_W)[i]?) = ([c1, c6, c9] : va_W) := rfl
theorem ks_10_1_6_9 {c0 c1 c2 c3 c4 c5 c6 c7 c8 c9 : Nat × va_E} : ([1, 6, 9] : List Nat).map (fun i => ([c0, c1, c2, c3, c4, c5, c6, c7, c8, c9] : va_W)[i]?) = ([c1, c6, c9] : va_W).map some := rfl
theorem ks_10_0_2_3_4_5_7_8 {c0 c1 c2 c3 c4 c5 c6 c7 c8 c9 : Nat × va_E} : ([0, 2, 3, 4, 5, 7, 8] : List Nat).map (fun i => ([c0, c1, c2, c3, c4, c5, c6, c7, c8, c9] : va_W)[i]?) = ([c0, c2, c3, c4, c5, c7, c8] : va_W).map some := rfl
theorem kt_10_0_7_1_2_3_4_8_5_6_9 {c0 c1 c2 c3 c4 c5 c6 c7 c8 c9 : Nat × va_E} : ([0, 7, 1, 2, 3, 4, 8, 5, 6, 9] : List Nat).filterMap (fun i => ([c0, c1, c2, c3, c4, c5, c6, c7, c8, c9] : va_W)[i]?) = ([c0, c7, c1, c2, c3, c4, c8, c5, c6, c9] : va_W) := rfl
theorem ks_10_0_7_1_2_3_4_8_5_6_9 {c0 c1 c2 c3 c4 c5 c6 c7 c8 c9 : Nat × va_E} : ([0, 7, 1, 2, 3, 4, 8, 5, 6, 9] : List Nat).map (fun i => ([c0, c1, c2, c3, c4, c5, c6, c7, c8, c9] : va_W)[i]?) = ([c0, c7, c1, c2, c3, c4, c8, c5, c6, c9] : va_W).map some := rfl
theorem kg_10_4 {c0 c1 c2 c3 c4 c5 c6 c7 c8 c9 : Nat × va_E} : ([c0, c1, c2, c3, c4, c5, c6, c7, c8, c9] : va_W)[4]? = some c4 := rfl
theorem kz_10_4 {c0 c1 c2 c3 c4 c5 c6 c7 c8 c9 : Nat × va_E} {x : Nat × va_E} : ([c0, c1, c2, c3, c4, c5, c6, c7, c8, c9] : va_W).set 4 x = [c0, c1, c2, c3, x, c5, c6, c7, c8, c9] := rfl
theorem kw_138 : Cond.fieldLink rr_Bk (93) "LineDesk$Items" "ahead" "[I" ∈ kx_T := kx_in (i := 138) (by decide +kernel) (by decide +kernel)
theorem kw_140 : Cond.fieldLink rr_Bk (94) "LineDesk$Items" "behind" "[I" ∈ kx_T := kx_in (i := 140) (by decide +kernel) (by decide +kernel)
theorem dd_Bk_describeCut_0 : decode bb_Bk_describeCut 0 = .ok (.aload_n 1, 1) := by decide +kernel
theorem dd_Bk_describeCut_1 : decode bb_Bk_describeCut 1 = .ok (.iload_n 2, 1) := by decide +kernel
theorem dd_Bk_describeCut_2 : decode bb_Bk_describeCut 2 = .ok (.iconst 4, 1) := by decide +kernel
theorem dd_Bk_describeCut_3 : decode bb_Bk_describeCut 3 = .ok (.invokevirtual 80, 3) := by decide +kernel
theorem dd_Bk_describeCut_6 : decode bb_Bk_describeCut 6 = .ok (.ifCond .ne (4), 3) := by decide +kernel
theorem dd_Bk_describeCut_9 : decode bb_Bk_describeCut 9 = .ok (.return_, 1) := by decide +kernel
theorem dd_Bk_describeCut_10 : decode bb_Bk_describeCut 10 = .ok (.aload_n 0, 1) := by decide +kernel
theorem dd_Bk_describeCut_11 : decode bb_Bk_describeCut 11 = .ok (.getfield 22, 3) := by decide +kernel
theorem dd_Bk_describeCut_14 : decode bb_Bk_describeCut 14 = .ok (.aload_n 0, 1) := by decide +kernel
theorem dd_Bk_describeCut_15 : decode bb_Bk_describeCut 15 = .ok (.getfield 48, 3) := by decide +kernel
theorem dd_Bk_describeCut_18 : decode bb_Bk_describeCut 18 = .ok (.aload_n 1, 1) := by decide +kernel
theorem dd_Bk_describeCut_19 : decode bb_Bk_describeCut 19 = .ok (.getfield 93, 3) := by decide +kernel
theorem dd_Bk_describeCut_22 : decode bb_Bk_describeCut 22 = .ok (.iload_n 2, 1) := by decide +kernel
theorem dd_Bk_describeCut_23 : decode bb_Bk_describeCut 23 = .ok (.iaload, 1) := by decide +kernel
theorem dd_Bk_describeCut_24 : decode bb_Bk_describeCut 24 = .ok (.iastore, 1) := by decide +kernel
theorem dd_Bk_describeCut_25 : decode bb_Bk_describeCut 25 = .ok (.aload_n 0, 1) := by decide +kernel
theorem dd_Bk_describeCut_26 : decode bb_Bk_describeCut 26 = .ok (.getfield 25, 3) := by decide +kernel
theorem dd_Bk_describeCut_29 : decode bb_Bk_describeCut 29 = .ok (.aload_n 0, 1) := by decide +kernel
theorem dd_Bk_describeCut_30 : decode bb_Bk_describeCut 30 = .ok (.getfield 48, 3) := by decide +kernel
theorem dd_Bk_describeCut_33 : decode bb_Bk_describeCut 33 = .ok (.aload_n 1, 1) := by decide +kernel
theorem dd_Bk_describeCut_34 : decode bb_Bk_describeCut 34 = .ok (.getfield 94, 3) := by decide +kernel
theorem dd_Bk_describeCut_37 : decode bb_Bk_describeCut 37 = .ok (.iload_n 2, 1) := by decide +kernel
theorem dd_Bk_describeCut_38 : decode bb_Bk_describeCut 38 = .ok (.iaload, 1) := by decide +kernel
theorem dd_Bk_describeCut_39 : decode bb_Bk_describeCut 39 = .ok (.iastore, 1) := by decide +kernel
theorem dd_Bk_describeCut_40 : decode bb_Bk_describeCut 40 = .ok (.aload_n 0, 1) := by decide +kernel
theorem dd_Bk_describeCut_41 : decode bb_Bk_describeCut 41 = .ok (.getfield 34, 3) := by decide +kernel
theorem dd_Bk_describeCut_44 : decode bb_Bk_describeCut 44 = .ok (.aload_n 0, 1) := by decide +kernel
theorem dd_Bk_describeCut_45 : decode bb_Bk_describeCut 45 = .ok (.getfield 48, 3) := by decide +kernel
theorem dd_Bk_describeCut_48 : decode bb_Bk_describeCut 48 = .ok (.iconst 1, 1) := by decide +kernel
theorem dd_Bk_describeCut_49 : decode bb_Bk_describeCut 49 = .ok (.bastore, 1) := by decide +kernel
theorem dd_Bk_describeCut_50 : decode bb_Bk_describeCut 50 = .ok (.aload_n 1, 1) := by decide +kernel
theorem dd_Bk_describeCut_51 : decode bb_Bk_describeCut 51 = .ok (.iload_n 2, 1) := by decide +kernel
theorem dd_Bk_describeCut_52 : decode bb_Bk_describeCut 52 = .ok (.iconst 2, 1) := by decide +kernel
theorem dd_Bk_describeCut_53 : decode bb_Bk_describeCut 53 = .ok (.invokevirtual 89, 3) := by decide +kernel
theorem dd_Bk_describeCut_56 : decode bb_Bk_describeCut 56 = .ok (.ifCond .eq (15), 3) := by decide +kernel
theorem dd_Bk_describeCut_59 : decode bb_Bk_describeCut 59 = .ok (.aload_n 0, 1) := by decide +kernel
theorem dd_Bk_describeCut_60 : decode bb_Bk_describeCut 60 = .ok (.getfield 28, 3) := by decide +kernel
theorem dd_Bk_describeCut_63 : decode bb_Bk_describeCut 63 = .ok (.aload_n 0, 1) := by decide +kernel
theorem dd_Bk_describeCut_64 : decode bb_Bk_describeCut 64 = .ok (.getfield 48, 3) := by decide +kernel
theorem dd_Bk_describeCut_67 : decode bb_Bk_describeCut 67 = .ok (.iload_n 2, 1) := by decide +kernel
theorem dd_Bk_describeCut_68 : decode bb_Bk_describeCut 68 = .ok (.iconst 1, 1) := by decide +kernel
theorem dd_Bk_describeCut_69 : decode bb_Bk_describeCut 69 = .ok (.iadd, 1) := by decide +kernel
theorem dd_Bk_describeCut_70 : decode bb_Bk_describeCut 70 = .ok (.iastore, 1) := by decide +kernel
theorem dd_Bk_describeCut_71 : decode bb_Bk_describeCut 71 = .ok (.return_, 1) := by decide +kernel

set_option maxHeartbeats 4000000 in
set_option maxRecDepth 100000 in
theorem ct_Bk_describeCut (l : Launch) (D : va_G) (cI cJ cZ : ClassId) (sz : Nat) (k : Nat) (bn : Nat) (lf : Nat) (j1 : Nat) (j2 : Nat) (j3 : Nat) (j4 : Nat) (j5 : Nat) (j6 : Nat) (j7 : Nat) (lk : Nat) (ba : Nat → Int32) (bb : Nat → Int32) (bg : Nat → Int32) (bh : Nat → Int32) (t : Nat) (cn : Nat) (i1 : Nat) (i2 : Nat) (i3 : Nat) (i4 : Nat) (i5 : Nat) (i6 : Nat) (i7 : Nat) (i8 : Nat) (i9 : Nat) (ln : Nat) (ik : Nat → Int32) (ia : Nat → Int32) (ib : Nat → Int32) (if_ : Nat → Int32) (i : Nat) (hi : i < 2 ^ 29) (hc : cn ≤ ln) (hln : ln < 2 ^ 30) (hbn : bn < lk) (hlk : lk < 2 ^ 30) : kx_Mv l yy_Bk_describeCut ww_Bk_describeCut ({ frames := 2, cells := 0, slots := 0, locals := 44 }) D vwCl (kx_ty cI cJ cZ) [.ref k, .ref t, .int (nI i)] [(k, .inr (2, [.int (nI bn), .int (nI lf), .ref j1, .ref j2, .ref j3, .ref j4, .ref j5, .ref j6, .ref j7])), (t, .inr (4, [.int (nI cn), .ref i1, .ref i2, .ref i3, .ref i4, .ref i5, .ref i6, .ref i7, .ref i8, .ref i9])), (j3, .inl (cI, lk, .inl ba)), (j4, .inl (cI, lk, .inl bb)), (j5, .inl (cI, lk, .inl bg)), (j7, .inl (cZ, lk, .inl bh)), (i1, .inl (cI, ln, .inl ik)), (i3, .inl (cI, ln, .inl ia)), (i4, .inl (cI, ln, .inl ib)), (i5, .inl (cI, ln, .inl if_))] sz (fun (u : (Nat → Int32) × (Nat → Int32) × (Nat → Int32) × (Nat → Int32)) => u.1 = (if (i < cn ∧ ik i = nI 4) then upd ba bn (ia i) else ba) ∧ u.2.1 = (if (i < cn ∧ ik i = nI 4) then upd bb bn (ib i) else bb) ∧ u.2.2.2 = (if (i < cn ∧ ik i = nI 4) then upd bh bn (nI 1) else bh) ∧ u.2.2.1 = (if pk_fl ik if_ cn i (nI 2) then upd bg bn (nI (i + 1)) else bg)) (fun (u : (Nat → Int32) × (Nat → Int32) × (Nat → Int32) × (Nat → Int32)) => [(k, .inr (2, [.int (nI bn), .int (nI lf), .ref j1, .ref j2, .ref j3, .ref j4, .ref j5, .ref j6, .ref j7])), (t, .inr (4, [.int (nI cn), .ref i1, .ref i2, .ref i3, .ref i4, .ref i5, .ref i6, .ref i7, .ref i8, .ref i9])), (j3, .inl (cI, lk, .inl u.1)), (j4, .inl (cI, lk, .inl u.2.1)), (j5, .inl (cI, lk, .inl u.2.2.1)), (j7, .inl (cZ, lk, .inl u.2.2.2)), (i1, .inl (cI, ln, .inl ik)), (i3, .inl (cI, ln, .inl ia)), (i4, .inl (cI, ln, .inl ib)), (i5, .inl (cI, ln, .inl if_))]) 0 0 := by
  refine kx_startv (by decide) rfl (Nat.le_of_ble_eq_true rfl) ?_
  intro p e s m below meth c A ls hx hb hr hml hts hown hlocks hin hP hK hN hD hA hS hl
  have hl : lv_has ls 3 [(0, .ref k), (1, .ref t), (2, .int (nI i))] := hl
  have hown : s.vm.findClass rr_Bk = some m.cls := hown
  have lk0 := hts _ (kx_m kw_196)
  have hin2 : ∀ w ∈ u_ws rr_Bk tt_Bk 9, w ∈ ww_Bk_describeCut := fun w h => kx_m (kf_Bk w h)
  have lk2 := hts _ (kx_m kw_189)
  have lk3 := hts _ (kx_m kw_138)
  have hin4 : ∀ w ∈ u_ws rr_It tt_It 10, w ∈ ww_Bk_describeCut := fun w h => kx_m (kf_It w h)
  have lk5 := hts _ (kx_m kw_198)
  have lk6 := hts _ (kx_m kw_140)
  have lk7 := hts _ (kx_m kw_203)
  have lk8 := hts _ (kx_m kw_200)
  obtain ⟨H, hH⟩ : ∃ H, H = s.heap := ⟨_, rfl⟩
  obtain ⟨locs, hlocs⟩ : ∃ z : List Loc, z = [] := ⟨_, rfl⟩
  have hP : va_P D vwCl [(k, .inr (2, [.int (nI bn), .int (nI lf), .ref j1, .ref j2, .ref j3, .ref j4, .ref j5, .ref j6, .ref j7])), (t, .inr (4, [.int (nI cn), .ref i1, .ref i2, .ref i3, .ref i4, .ref i5, .ref i6, .ref i7, .ref i8, .ref i9])), (j3, .inl (cI, lk, .inl ba)), (j4, .inl (cI, lk, .inl bb)), (j5, .inl (cI, lk, .inl bg)), (j7, .inl (cZ, lk, .inl bh)), (i1, .inl (cI, ln, .inl ik)), (i3, .inl (cI, ln, .inl ia)), (i4, .inl (cI, ln, .inl ib)), (i5, .inl (cI, ln, .inl if_))] H := by rw [hH]; exact hP
  have hS : va_S A s.heap H locs := by rw [hH, hlocs]; exact hS
  refine kx_gen hH hlocs ?_
  clear hH hlocs
  refine kx_nameQ (fun Q hQ => ?_)
  refine lv_aload_n hx hb dd_Bk_describeCut_0 rfl (lv_at hl 1 rfl) ?_
  refine lv_iload_n hx hb dd_Bk_describeCut_1 rfl (lv_at hl 2 rfl) ?_
  refine lv_iconst (v := nI 4) hx hb dd_Bk_describeCut_2 (by decide) ?_
  refine kx_calli (wr := [(k, .inr (2, [.int (nI bn), .int (nI lf), .ref j1, .ref j2, .ref j3, .ref j4, .ref j5, .ref j6, .ref j7])), (j3, .inl (cI, lk, .inl ba)), (j4, .inl (cI, lk, .inl bb)), (j5, .inl (cI, lk, .inl bg)), (j7, .inl (cZ, lk, .inl bh)), (i3, .inl (cI, ln, .inl ia)), (i4, .inl (cI, ln, .inl ib)), (i5, .inl (cI, ln, .inl if_))]) (va_runV (C := rr_It) (As := [.int (nI i), .int (nI 4)]) (rest := []) ⟨hx, hb, hml, hown, hts⟩ (ct_It_isKind l D cI cJ cZ H.size t cn i1 i2 i3 i4 i5 i6 i7 i8 i9 ln ik i (nI 4) (by omega) (by omega) (by omega)) ⟨(callB_of 2 hts (kx_good kw_599) rfl rfl rfl (hts _ (kx_m kw_47)) (hts _ (kx_m kw_624)) (by decide +kernel) ⟨Nat.le_of_ble_eq_true rfl, Nat.le_of_ble_eq_true rfl⟩), (hts _ (kx_m kw_597)), (hts _ (kx_m kw_598))⟩ (kx_preV (ci := 4) (q0 := 0) hK hN (hP.sub [1, 6] kt_10_1_6) (hD.sub [1, 6] (by decide) ks_10_1_6) rfl kg_2_0) rfl rfl hl.1 rfl (lv_room (Nat.le_of_ble_eq_true rfl)) dd_Bk_describeCut_3 ⟨Nat.le_of_ble_eq_true rfl, Nat.le_of_ble_eq_true rfl⟩) hP hD hS hA [1, 6] [0, 2, 3, 4, 5, 7, 8, 9] ks_10_1_6 ks_10_0_2_3_4_5_7_8_9 (by decide) (by decide) (fun r3 u3 H locs hw3 hP hD hS => ?_)
  have hP : va_P D vwCl [(k, .inr (2, [.int (nI bn), .int (nI lf), .ref j1, .ref j2, .ref j3, .ref j4, .ref j5, .ref j6, .ref j7])), (j3, .inl (cI, lk, .inl ba)), (j4, .inl (cI, lk, .inl bb)), (j5, .inl (cI, lk, .inl bg)), (j7, .inl (cZ, lk, .inl bh)), (i3, .inl (cI, ln, .inl ia)), (i4, .inl (cI, ln, .inl ib)), (i5, .inl (cI, ln, .inl if_)), (t, .inr (4, [.int (nI cn), .ref i1, .ref i2, .ref i3, .ref i4, .ref i5, .ref i6, .ref i7, .ref i8, .ref i9])), (i1, .inl (cI, ln, .inl ik))] H := hP
  have hD : va_D A [(k, .inr (2, [.int (nI bn), .int (nI lf), .ref j1, .ref j2, .ref j3, .ref j4, .ref j5, .ref j6, .ref j7])), (j3, .inl (cI, lk, .inl ba)), (j4, .inl (cI, lk, .inl bb)), (j5, .inl (cI, lk, .inl bg)), (j7, .inl (cZ, lk, .inl bh)), (i3, .inl (cI, ln, .inl ia)), (i4, .inl (cI, ln, .inl ib)), (i5, .inl (cI, ln, .inl if_)), (t, .inr (4, [.int (nI cn), .ref i1, .ref i2, .ref i3, .ref i4, .ref i5, .ref i6, .ref i7, .ref i8, .ref i9])), (i1, .inl (cI, ln, .inl ik))] := hD
  have hP : va_P D vwCl [(k, .inr (2, [.int (nI bn), .int (nI lf), .ref j1, .ref j2, .ref j3, .ref j4, .ref j5, .ref j6, .ref j7])), (t, .inr (4, [.int (nI cn), .ref i1, .ref i2, .ref i3, .ref i4, .ref i5, .ref i6, .ref i7, .ref i8, .ref i9])), (j3, .inl (cI, lk, .inl ba)), (j4, .inl (cI, lk, .inl bb)), (j5, .inl (cI, lk, .inl bg)), (j7, .inl (cZ, lk, .inl bh)), (i1, .inl (cI, ln, .inl ik)), (i3, .inl (cI, ln, .inl ia)), (i4, .inl (cI, ln, .inl ib)), (i5, .inl (cI, ln, .inl if_))] H := hP.sub [0, 8, 1, 2, 3, 4, 9, 5, 6, 7] kt_10_0_8_1_2_3_4_9_5_6_7
  have hD : va_D A [(k, .inr (2, [.int (nI bn), .int (nI lf), .ref j1, .ref j2, .ref j3, .ref j4, .ref j5, .ref j6, .ref j7])), (t, .inr (4, [.int (nI cn), .ref i1, .ref i2, .ref i3, .ref i4, .ref i5, .ref i6, .ref i7, .ref i8, .ref i9])), (j3, .inl (cI, lk, .inl ba)), (j4, .inl (cI, lk, .inl bb)), (j5, .inl (cI, lk, .inl bg)), (j7, .inl (cZ, lk, .inl bh)), (i1, .inl (cI, ln, .inl ik)), (i3, .inl (cI, ln, .inl ia)), (i4, .inl (cI, ln, .inl ib)), (i5, .inl (cI, ln, .inl if_))] := hD.sub [0, 8, 1, 2, 3, 4, 9, 5, 6, 7] (by decide) ks_10_0_8_1_2_3_4_9_5_6_7
  have hw3 : r3 = kb_p (i < cn ∧ ik i = (nI 4)) := hw3
  subst hw3
  refine lv_if_ne (tgt := 10) hx hb dd_Bk_describeCut_6 (by decide) (fun c6 => ?_) (fun c6 => ?_)
  · skip
    have c6 : i < cn ∧ ik i = (nI 4) := kb_1.mp c6
    have hil : i < ln := by omega
    refine lv_aload_n hx hb dd_Bk_describeCut_10 rfl (lv_at hl 0 rfl) ?_
    refine va_get (D := D) (ci := 2) (v := .ref j3) (C := rr_Bk) (T := tt_Bk) (N := 9) hx hb hts hin2 hown hK hP 0 kg_10_0 rfl 4 (by decide) lk0 (fun _ h9 => h9) rfl dd_Bk_describeCut_11 ?_
    refine lv_aload_n hx hb dd_Bk_describeCut_14 rfl (lv_at hl 0 rfl) ?_
    refine va_get (D := D) (ci := 2) (v := .int (nI bn)) (C := rr_Bk) (T := tt_Bk) (N := 9) hx hb hts hin2 hown hK hP 0 kg_10_0 rfl 0 (by decide) lk2 (fun _ h9 => h9) rfl dd_Bk_describeCut_15 ?_
    refine lv_aload_n hx hb dd_Bk_describeCut_18 rfl (lv_at hl 1 rfl) ?_
    refine va_get (D := D) (ci := 4) (v := .ref i3) (C := rr_It) (T := tt_It) (N := 10) hx hb hts hin4 hown hK hP 1 kg_10_1 rfl 3 (by decide) lk3 (fun _ h9 => h9) rfl dd_Bk_describeCut_19 ?_
    refine lv_iload_n hx hb dd_Bk_describeCut_22 rfl (lv_at hl 2 rfl) ?_
    refine kx_iald (q0 := 7) (t0 := 0) hx hb dd_Bk_describeCut_23 hK hP kg_10_7 rfl (by omega) (by omega) ?_
    refine kx_iast (q0 := 2) (t0 := 0) hx hb dd_Bk_describeCut_24 hK hP hD hS kg_10_2 rfl (by omega) (by omega) (fun H locs hP hD hS => ?_)
    have hP : va_P D vwCl [(k, .inr (2, [.int (nI bn), .int (nI lf), .ref j1, .ref j2, .ref j3, .ref j4, .ref j5, .ref j6, .ref j7])), (t, .inr (4, [.int (nI cn), .ref i1, .ref i2, .ref i3, .ref i4, .ref i5, .ref i6, .ref i7, .ref i8, .ref i9])), (j3, .inl (cI, lk, .inl (upd ba bn (ia i)))), (j4, .inl (cI, lk, .inl bb)), (j5, .inl (cI, lk, .inl bg)), (j7, .inl (cZ, lk, .inl bh)), (i1, .inl (cI, ln, .inl ik)), (i3, .inl (cI, ln, .inl ia)), (i4, .inl (cI, ln, .inl ib)), (i5, .inl (cI, ln, .inl if_))] H := kx_cP kz_10_2 hP
    have hD : va_D A [(k, .inr (2, [.int (nI bn), .int (nI lf), .ref j1, .ref j2, .ref j3, .ref j4, .ref j5, .ref j6, .ref j7])), (t, .inr (4, [.int (nI cn), .ref i1, .ref i2, .ref i3, .ref i4, .ref i5, .ref i6, .ref i7, .ref i8, .ref i9])), (j3, .inl (cI, lk, .inl (upd ba bn (ia i)))), (j4, .inl (cI, lk, .inl bb)), (j5, .inl (cI, lk, .inl bg)), (j7, .inl (cZ, lk, .inl bh)), (i1, .inl (cI, ln, .inl ik)), (i3, .inl (cI, ln, .inl ia)), (i4, .inl (cI, ln, .inl ib)), (i5, .inl (cI, ln, .inl if_))] := kx_cD kz_10_2 hD
    refine lv_aload_n hx hb dd_Bk_describeCut_25 rfl (lv_at hl 0 rfl) ?_
    refine va_get (D := D) (ci := 2) (v := .ref j4) (C := rr_Bk) (T := tt_Bk) (N := 9) hx hb hts hin2 hown hK hP 0 kg_10_0 rfl 5 (by decide) lk5 (fun _ h9 => h9) rfl dd_Bk_describeCut_26 ?_
    refine lv_aload_n hx hb dd_Bk_describeCut_29 rfl (lv_at hl 0 rfl) ?_
    refine va_get (D := D) (ci := 2) (v := .int (nI bn)) (C := rr_Bk) (T := tt_Bk) (N := 9) hx hb hts hin2 hown hK hP 0 kg_10_0 rfl 0 (by decide) lk2 (fun _ h9 => h9) rfl dd_Bk_describeCut_30 ?_
    refine lv_aload_n hx hb dd_Bk_describeCut_33 rfl (lv_at hl 1 rfl) ?_
    refine va_get (D := D) (ci := 4) (v := .ref i4) (C := rr_It) (T := tt_It) (N := 10) hx hb hts hin4 hown hK hP 1 kg_10_1 rfl 4 (by decide) lk6 (fun _ h9 => h9) rfl dd_Bk_describeCut_34 ?_
    refine lv_iload_n hx hb dd_Bk_describeCut_37 rfl (lv_at hl 2 rfl) ?_
    refine kx_iald (q0 := 8) (t0 := 0) hx hb dd_Bk_describeCut_38 hK hP kg_10_8 rfl (by omega) (by omega) ?_
    refine kx_iast (q0 := 3) (t0 := 0) hx hb dd_Bk_describeCut_39 hK hP hD hS kg_10_3 rfl (by omega) (by omega) (fun H locs hP hD hS => ?_)
    have hP : va_P D vwCl [(k, .inr (2, [.int (nI bn), .int (nI lf), .ref j1, .ref j2, .ref j3, .ref j4, .ref j5, .ref j6, .ref j7])), (t, .inr (4, [.int (nI cn), .ref i1, .ref i2, .ref i3, .ref i4, .ref i5, .ref i6, .ref i7, .ref i8, .ref i9])), (j3, .inl (cI, lk, .inl (upd ba bn (ia i)))), (j4, .inl (cI, lk, .inl (upd bb bn (ib i)))), (j5, .inl (cI, lk, .inl bg)), (j7, .inl (cZ, lk, .inl bh)), (i1, .inl (cI, ln, .inl ik)), (i3, .inl (cI, ln, .inl ia)), (i4, .inl (cI, ln, .inl ib)), (i5, .inl (cI, ln, .inl if_))] H := kx_cP kz_10_3 hP
    have hD : va_D A [(k, .inr (2, [.int (nI bn), .int (nI lf), .ref j1, .ref j2, .ref j3, .ref j4, .ref j5, .ref j6, .ref j7])), (t, .inr (4, [.int (nI cn), .ref i1, .ref i2, .ref i3, .ref i4, .ref i5, .ref i6, .ref i7, .ref i8, .ref i9])), (j3, .inl (cI, lk, .inl (upd ba bn (ia i)))), (j4, .inl (cI, lk, .inl (upd bb bn (ib i)))), (j5, .inl (cI, lk, .inl bg)), (j7, .inl (cZ, lk, .inl bh)), (i1, .inl (cI, ln, .inl ik)), (i3, .inl (cI, ln, .inl ia)), (i4, .inl (cI, ln, .inl ib)), (i5, .inl (cI, ln, .inl if_))] := kx_cD kz_10_3 hD
    refine lv_aload_n hx hb dd_Bk_describeCut_40 rfl (lv_at hl 0 rfl) ?_
    refine va_get (D := D) (ci := 2) (v := .ref j7) (C := rr_Bk) (T := tt_Bk) (N := 9) hx hb hts hin2 hown hK hP 0 kg_10_0 rfl 8 (by decide) lk7 (fun _ h9 => h9) rfl dd_Bk_describeCut_41 ?_
    refine lv_aload_n hx hb dd_Bk_describeCut_44 rfl (lv_at hl 0 rfl) ?_
    refine va_get (D := D) (ci := 2) (v := .int (nI bn)) (C := rr_Bk) (T := tt_Bk) (N := 9) hx hb hts hin2 hown hK hP 0 kg_10_0 rfl 0 (by decide) lk2 (fun _ h9 => h9) rfl dd_Bk_describeCut_45 ?_
    refine lv_iconst (v := nI 1) hx hb dd_Bk_describeCut_48 (by decide) ?_
    refine kx_zast (q0 := 5) (t0 := 2) hx hb dd_Bk_describeCut_49 hK hP hD hS kg_10_5 rfl (by omega) (by omega) (by decide) (fun H locs hP hD hS => ?_)
    have hP : va_P D vwCl [(k, .inr (2, [.int (nI bn), .int (nI lf), .ref j1, .ref j2, .ref j3, .ref j4, .ref j5, .ref j6, .ref j7])), (t, .inr (4, [.int (nI cn), .ref i1, .ref i2, .ref i3, .ref i4, .ref i5, .ref i6, .ref i7, .ref i8, .ref i9])), (j3, .inl (cI, lk, .inl (upd ba bn (ia i)))), (j4, .inl (cI, lk, .inl (upd bb bn (ib i)))), (j5, .inl (cI, lk, .inl bg)), (j7, .inl (cZ, lk, .inl (upd bh bn (nI 1)))), (i1, .inl (cI, ln, .inl ik)), (i3, .inl (cI, ln, .inl ia)), (i4, .inl (cI, ln, .inl ib)), (i5, .inl (cI, ln, .inl if_))] H := kx_cP kz_10_5 hP
    have hD : va_D A [(k, .inr (2, [.int (nI bn), .int (nI lf), .ref j1, .ref j2, .ref j3, .ref j4, .ref j5, .ref j6, .ref j7])), (t, .inr (4, [.int (nI cn), .ref i1, .ref i2, .ref i3, .ref i4, .ref i5, .ref i6, .ref i7, .ref i8, .ref i9])), (j3, .inl (cI, lk, .inl (upd ba bn (ia i)))), (j4, .inl (cI, lk, .inl (upd bb bn (ib i)))), (j5, .inl (cI, lk, .inl bg)), (j7, .inl (cZ, lk, .inl (upd bh bn (nI 1)))), (i1, .inl (cI, ln, .inl ik)), (i3, .inl (cI, ln, .inl ia)), (i4, .inl (cI, ln, .inl ib)), (i5, .inl (cI, ln, .inl if_))] := kx_cD kz_10_5 hD
    refine lv_aload_n hx hb dd_Bk_describeCut_50 rfl (lv_at hl 1 rfl) ?_
    refine lv_iload_n hx hb dd_Bk_describeCut_51 rfl (lv_at hl 2 rfl) ?_
    refine lv_iconst (v := nI 2) hx hb dd_Bk_describeCut_52 (by decide) ?_
    refine kx_calli (wr := [(k, .inr (2, [.int (nI bn), .int (nI lf), .ref j1, .ref j2, .ref j3, .ref j4, .ref j5, .ref j6, .ref j7])), (j3, .inl (cI, lk, .inl (upd ba bn (ia i)))), (j4, .inl (cI, lk, .inl (upd bb bn (ib i)))), (j5, .inl (cI, lk, .inl bg)), (j7, .inl (cZ, lk, .inl (upd bh bn (nI 1)))), (i3, .inl (cI, ln, .inl ia)), (i4, .inl (cI, ln, .inl ib))]) (va_runV (C := rr_It) (As := [.int (nI i), .int (nI 2)]) (rest := []) ⟨hx, hb, hml, hown, hts⟩ (ct_It_hasFlag l D cI cJ cZ H.size t cn i1 i2 i3 i4 i5 i6 i7 i8 i9 ln ik if_ i (nI 2) (by omega) (by omega) (by omega)) ⟨(callB_of 2 hts (kx_good kw_603) rfl rfl rfl (hts _ (kx_m kw_47)) (hts _ (kx_m kw_625)) (by decide +kernel) ⟨Nat.le_of_ble_eq_true rfl, Nat.le_of_ble_eq_true rfl⟩), (hts _ (kx_m kw_601)), (hts _ (kx_m kw_602))⟩ (kx_preV (ci := 4) (q0 := 0) hK hN (hP.sub [1, 6, 9] kt_10_1_6_9) (hD.sub [1, 6, 9] (by decide) ks_10_1_6_9) rfl kg_3_0) rfl rfl hl.1 rfl (lv_room (Nat.le_of_ble_eq_true rfl)) dd_Bk_describeCut_53 ⟨Nat.le_of_ble_eq_true rfl, Nat.le_of_ble_eq_true rfl⟩) hP hD hS hA [1, 6, 9] [0, 2, 3, 4, 5, 7, 8] ks_10_1_6_9 ks_10_0_2_3_4_5_7_8 (by decide) (by decide) (fun r53 u53 H locs hw53 hP hD hS => ?_)
    have hP : va_P D vwCl [(k, .inr (2, [.int (nI bn), .int (nI lf), .ref j1, .ref j2, .ref j3, .ref j4, .ref j5, .ref j6, .ref j7])), (j3, .inl (cI, lk, .inl (upd ba bn (ia i)))), (j4, .inl (cI, lk, .inl (upd bb bn (ib i)))), (j5, .inl (cI, lk, .inl bg)), (j7, .inl (cZ, lk, .inl (upd bh bn (nI 1)))), (i3, .inl (cI, ln, .inl ia)), (i4, .inl (cI, ln, .inl ib)), (t, .inr (4, [.int (nI cn), .ref i1, .ref i2, .ref i3, .ref i4, .ref i5, .ref i6, .ref i7, .ref i8, .ref i9])), (i1, .inl (cI, ln, .inl ik)), (i5, .inl (cI, ln, .inl if_))] H := hP
    have hD : va_D A [(k, .inr (2, [.int (nI bn), .int (nI lf), .ref j1, .ref j2, .ref j3, .ref j4, .ref j5, .ref j6, .ref j7])), (j3, .inl (cI, lk, .inl (upd ba bn (ia i)))), (j4, .inl (cI, lk, .inl (upd bb bn (ib i)))), (j5, .inl (cI, lk, .inl bg)), (j7, .inl (cZ, lk, .inl (upd bh bn (nI 1)))), (i3, .inl (cI, ln, .inl ia)), (i4, .inl (cI, ln, .inl ib)), (t, .inr (4, [.int (nI cn), .ref i1, .ref i2, .ref i3, .ref i4, .ref i5, .ref i6, .ref i7, .ref i8, .ref i9])), (i1, .inl (cI, ln, .inl ik)), (i5, .inl (cI, ln, .inl if_))] := hD
    have hP : va_P D vwCl [(k, .inr (2, [.int (nI bn), .int (nI lf), .ref j1, .ref j2, .ref j3, .ref j4, .ref j5, .ref j6, .ref j7])), (t, .inr (4, [.int (nI cn), .ref i1, .ref i2, .ref i3, .ref i4, .ref i5, .ref i6, .ref i7, .ref i8, .ref i9])), (j3, .inl (cI, lk, .inl (upd ba bn (ia i)))), (j4, .inl (cI, lk, .inl (upd bb bn (ib i)))), (j5, .inl (cI, lk, .inl bg)), (j7, .inl (cZ, lk, .inl (upd bh bn (nI 1)))), (i1, .inl (cI, ln, .inl ik)), (i3, .inl (cI, ln, .inl ia)), (i4, .inl (cI, ln, .inl ib)), (i5, .inl (cI, ln, .inl if_))] H := hP.sub [0, 7, 1, 2, 3, 4, 8, 5, 6, 9] kt_10_0_7_1_2_3_4_8_5_6_9
    have hD : va_D A [(k, .inr (2, [.int (nI bn), .int (nI lf), .ref j1, .ref j2, .ref j3, .ref j4, .ref j5, .ref j6, .ref j7])), (t, .inr (4, [.int (nI cn), .ref i1, .ref i2, .ref i3, .ref i4, .ref i5, .ref i6, .ref i7, .ref i8, .ref i9])), (j3, .inl (cI, lk, .inl (upd ba bn (ia i)))), (j4, .inl (cI, lk, .inl (upd bb bn (ib i)))), (j5, .inl (cI, lk, .inl bg)), (j7, .inl (cZ, lk, .inl (upd bh bn (nI 1)))), (i1, .inl (cI, ln, .inl ik)), (i3, .inl (cI, ln, .inl ia)), (i4, .inl (cI, ln, .inl ib)), (i5, .inl (cI, ln, .inl if_))] := hD.sub [0, 7, 1, 2, 3, 4, 8, 5, 6, 9] (by decide) ks_10_0_7_1_2_3_4_8_5_6_9
    have hw53 : r53 = kb_p (pk_fl ik if_ cn i (nI 2)) := hw53
    subst hw53
    refine lv_if_eq (tgt := 71) hx hb dd_Bk_describeCut_56 (by decide) (fun c56 => ?_) (fun c56 => ?_)
    · skip
      have c56 : ¬ (pk_fl ik if_ cn i (nI 2)) := kb_0.mp c56
      rw [hQ]
      exact kx_vret hx hb hr hlocks hK hN hS dd_Bk_describeCut_71 (upd ba bn (ia i), upd bb bn (ib i), bg, upd bh bn (nI 1)) hP hD (by rw [if_pos c6, if_pos c6, if_pos c6]; first | (rw [if_pos c56]; exact ⟨rfl, rfl, rfl, rfl⟩) | (rw [if_neg c56]; exact ⟨rfl, rfl, rfl, rfl⟩))
    · skip
      have c56 : pk_fl ik if_ cn i (nI 2) := kb_1.mp c56
      refine lv_aload_n hx hb dd_Bk_describeCut_59 rfl (lv_at hl 0 rfl) ?_
      refine va_get (D := D) (ci := 2) (v := .ref j5) (C := rr_Bk) (T := tt_Bk) (N := 9) hx hb hts hin2 hown hK hP 0 kg_10_0 rfl 6 (by decide) lk8 (fun _ h9 => h9) rfl dd_Bk_describeCut_60 ?_
      refine lv_aload_n hx hb dd_Bk_describeCut_63 rfl (lv_at hl 0 rfl) ?_
      refine va_get (D := D) (ci := 2) (v := .int (nI bn)) (C := rr_Bk) (T := tt_Bk) (N := 9) hx hb hts hin2 hown hK hP 0 kg_10_0 rfl 0 (by decide) lk2 (fun _ h9 => h9) rfl dd_Bk_describeCut_64 ?_
      refine lv_iload_n hx hb dd_Bk_describeCut_67 rfl (lv_at hl 2 rfl) ?_
      refine lv_iconst (v := nI 1) hx hb dd_Bk_describeCut_68 (by decide) ?_
      refine kx_iadd hx hb dd_Bk_describeCut_69 ?_
      refine kx_iast (q0 := 4) (t0 := 0) hx hb dd_Bk_describeCut_70 hK hP hD hS kg_10_4 rfl (by omega) (by omega) (fun H locs hP hD hS => ?_)
      have hP : va_P D vwCl [(k, .inr (2, [.int (nI bn), .int (nI lf), .ref j1, .ref j2, .ref j3, .ref j4, .ref j5, .ref j6, .ref j7])), (t, .inr (4, [.int (nI cn), .ref i1, .ref i2, .ref i3, .ref i4, .ref i5, .ref i6, .ref i7, .ref i8, .ref i9])), (j3, .inl (cI, lk, .inl (upd ba bn (ia i)))), (j4, .inl (cI, lk, .inl (upd bb bn (ib i)))), (j5, .inl (cI, lk, .inl (upd bg bn (nI (i + 1))))), (j7, .inl (cZ, lk, .inl (upd bh bn (nI 1)))), (i1, .inl (cI, ln, .inl ik)), (i3, .inl (cI, ln, .inl ia)), (i4, .inl (cI, ln, .inl ib)), (i5, .inl (cI, ln, .inl if_))] H := kx_cP kz_10_4 hP
      have hD : va_D A [(k, .inr (2, [.int (nI bn), .int (nI lf), .ref j1, .ref j2, .ref j3, .ref j4, .ref j5, .ref j6, .ref j7])), (t, .inr (4, [.int (nI cn), .ref i1, .ref i2, .ref i3, .ref i4, .ref i5, .ref i6, .ref i7, .ref i8, .ref i9])), (j3, .inl (cI, lk, .inl (upd ba bn (ia i)))), (j4, .inl (cI, lk, .inl (upd bb bn (ib i)))), (j5, .inl (cI, lk, .inl (upd bg bn (nI (i + 1))))), (j7, .inl (cZ, lk, .inl (upd bh bn (nI 1)))), (i1, .inl (cI, ln, .inl ik)), (i3, .inl (cI, ln, .inl ia)), (i4, .inl (cI, ln, .inl ib)), (i5, .inl (cI, ln, .inl if_))] := kx_cD kz_10_4 hD
      rw [hQ]
      exact kx_vret hx hb hr hlocks hK hN hS dd_Bk_describeCut_71 (upd ba bn (ia i), upd bb bn (ib i), upd bg bn (nI (i + 1)), upd bh bn (nI 1)) hP hD (by rw [if_pos c6, if_pos c6, if_pos c6]; first | (rw [if_pos c56]; exact ⟨rfl, rfl, rfl, rfl⟩) | (rw [if_neg c56]; exact ⟨rfl, rfl, rfl, rfl⟩))
  · skip
    have c6 : ¬ (i < cn ∧ ik i = (nI 4)) := kb_0.mp c6
    rw [hQ]
    exact kx_vret hx hb hr hlocks hK hN hS dd_Bk_describeCut_9 (ba, bb, bg, bh) hP hD (by rw [if_neg c6, if_neg c6, if_neg c6, if_neg (fun q => c6 q.1)]; exact ⟨rfl, rfl, rfl, rfl⟩)
