theorem kz_10_1 {c0 c1 c2 c3 c4 c5 c6 c7 c8 c9 : Nat × va_E} {x : Nat × va_E} : ([c0, c1, c2, c3, c4, c5, c6, c7, c8, c9] : va_W).set 1 x = [c0, x, c2, c3, c4, c5, c6, c7, c8, c9] := rfl
theorem kz_10_6 {c0 c1 c2 c3 c4 c5 c6 c7 c8 c9 : Nat × va_E} {x : Nat × va_E} : ([c0, c1, c2, c3, c4, c5, c6, c7, c8, c9] : va_W).set 6 x = [c0, c1, c2, c3, c4, c5, x, c7, c8, c9] := rfl
theorem kz_10_7 {c0 c1 c2 c3 c4 c5 c6 c7 c8 c9 : Nat × va_E} {x : Nat × va_E} : ([c0, c1, c2, c3, c4, c5, c6, c7, c8, c9] : va_W).set 7 x = [c0, c1, c2, c3, c4, c5, c6, x, c8, c9] := rfl
theorem kz_10_8 {c0 c1 c2 c3 c4 c5 c6 c7 c8 c9 : Nat × va_E} {x : Nat × va_E} : ([c0, c1, c2, c3, c4, c5, c6, c7, c8, c9] : va_W).set 8 x = [c0, c1, c2, c3, c4, c5, c6, c7, x, c9] := rfl
theorem kz_10_0 {c0 c1 c2 c3 c4 c5 c6 c7 c8 c9 : Nat × va_E} {x : Nat × va_E} : ([c0, c1, c2, c3, c4, c5, c6, c7, c8, c9] : va_W).set 0 x = [x, c1, c2, c3, c4, c5, c6, c7, c8, c9] := rfl
theorem kt_10_ {c0 c1 c2 c3 c4 c5 c6 c7 c8 c9 : Nat × va_E} : ([] : List Nat).filterMap (fun i => ([c0, c1, c2, c3, c4, c5, c6, c7, c8, c9] : va_W)[i]?) = ([] : va_W) := rfl
theorem ks_10_ {c0 c1 c2 c3 c4 c5 c6 c7 c8 c9 : Nat × va_E} : ([] : List Nat).map (fun i => ([c0, c1, c2, c3, c4, c5, c6, c7, c8, c9] : va_W)[i]?) = ([] : va_W).map some := rfl
theorem ks_10_0_1_2_3_4_5_6_7_8_9 {c0 c1 c2 c3 c4 c5 c6 c7 c8 c9 : Nat × va_E} : ([0, 1, 2, 3, 4, 5, 6, 7, 8, 9] : List Nat).map (fun i => ([c0, c1, c2, c3, c4, c5, c6, c7, c8, c9] : va_W)[i]?) = ([c0, c1, c2, c3, c4, c5, c6, c7, c8, c9] : va_W).map some := rfl
theorem kt_10_0_1_2_3_4_5_6_7_8_9 {c0 c1 c2 c3 c4 c5 c6 c7 c8 c9 : Nat × va_E} : ([0, 1, 2, 3, 4, 5, 6, 7, 8, 9] : List Nat).filterMap (fun i => ([c0, c1, c2, c3, c4, c5, c6, c7, c8, c9] : va_W)[i]?) = ([c0, c1, c2, c3, c4, c5, c6, c7, c8, c9] : va_W) := rfl
theorem kw_3 : Cond.selects rr_It yy_It_makeRoom yy_It_makeRoom ∈ kx_T := kx_in (i := 3) (by decide +kernel) (by decide +kernel)
theorem kw_460 : Cond.methodLink rr_It (48) yy_It_makeRoom ∈ kx_T := kx_in (i := 460) (by decide +kernel) (by decide +kernel)
theorem kw_462 : Cond.instanceMethod yy_It_makeRoom ∈ kx_T := kx_in (i := 462) (by decide +kernel) (by decide +kernel)
set_option maxRecDepth 100000 in
theorem kw_463 : Cond.code yy_It_makeRoom bb_It_makeRoom 2 none ∈ kx_T := kx_in (i := 463) rfl (by decide +kernel)
theorem dd_It_append_0 : decode bb_It_append 0 = .ok (.aload_n 0, 1) := by decide +kernel
theorem dd_It_append_1 : decode bb_It_append 1 = .ok (.getfield 40, 3) := by decide +kernel
theorem dd_It_append_4 : decode bb_It_append 4 = .ok (.sipush (4096), 3) := by decide +kernel
theorem dd_It_append_7 : decode bb_It_append 7 = .ok (.if_icmp .lt (5), 3) := by decide +kernel
theorem dd_It_append_10 : decode bb_It_append 10 = .ok (.iconst (-1), 1) := by decide +kernel
theorem dd_It_append_11 : decode bb_It_append 11 = .ok (.ireturn, 1) := by decide +kernel
theorem dd_It_append_12 : decode bb_It_append 12 = .ok (.aload_n 0, 1) := by decide +kernel
theorem dd_It_append_13 : decode bb_It_append 13 = .ok (.getfield 40, 3) := by decide +kernel
theorem dd_It_append_16 : decode bb_It_append 16 = .ok (.aload_n 0, 1) := by decide +kernel
theorem dd_It_append_17 : decode bb_It_append 17 = .ok (.getfield 9, 3) := by decide +kernel
theorem dd_It_append_20 : decode bb_It_append 20 = .ok (.arraylength, 1) := by decide +kernel
theorem dd_It_append_21 : decode bb_It_append 21 = .ok (.if_icmp .lt (24), 3) := by decide +kernel
theorem dd_It_append_24 : decode bb_It_append 24 = .ok (.aload_n 0, 1) := by decide +kernel
theorem dd_It_append_25 : decode bb_It_append 25 = .ok (.aload_n 0, 1) := by decide +kernel
theorem dd_It_append_26 : decode bb_It_append 26 = .ok (.getfield 9, 3) := by decide +kernel
theorem dd_It_append_29 : decode bb_It_append 29 = .ok (.arraylength, 1) := by decide +kernel
theorem dd_It_append_30 : decode bb_It_append 30 = .ok (.aload_n 0, 1) := by decide +kernel
theorem dd_It_append_31 : decode bb_It_append 31 = .ok (.getfield 40, 3) := by decide +kernel
theorem dd_It_append_34 : decode bb_It_append 34 = .ok (.iconst 1, 1) := by decide +kernel
theorem dd_It_append_35 : decode bb_It_append 35 = .ok (.iadd, 1) := by decide +kernel
theorem dd_It_append_36 : decode bb_It_append 36 = .ok (.sipush (4096), 3) := by decide +kernel
theorem dd_It_append_39 : decode bb_It_append 39 = .ok (.invokestatic 44, 3) := by decide +kernel
theorem dd_It_append_42 : decode bb_It_append 42 = .ok (.invokevirtual 48, 3) := by decide +kernel
theorem dd_It_append_45 : decode bb_It_append 45 = .ok (.aload_n 0, 1) := by decide +kernel
theorem dd_It_append_46 : decode bb_It_append 46 = .ok (.getfield 40, 3) := by decide +kernel
theorem dd_It_append_49 : decode bb_It_append 49 = .ok (.istore_n 3, 1) := by decide +kernel
theorem dd_It_append_50 : decode bb_It_append 50 = .ok (.aload_n 0, 1) := by decide +kernel
theorem dd_It_append_51 : decode bb_It_append 51 = .ok (.getfield 9, 3) := by decide +kernel
theorem dd_It_append_54 : decode bb_It_append 54 = .ok (.iload_n 3, 1) := by decide +kernel
theorem dd_It_append_55 : decode bb_It_append 55 = .ok (.iload_n 1, 1) := by decide +kernel
theorem dd_It_append_56 : decode bb_It_append 56 = .ok (.iastore, 1) := by decide +kernel
theorem dd_It_append_57 : decode bb_It_append 57 = .ok (.aload_n 0, 1) := by decide +kernel
theorem dd_It_append_58 : decode bb_It_append 58 = .ok (.getfield 27, 3) := by decide +kernel
theorem dd_It_append_61 : decode bb_It_append 61 = .ok (.iload_n 3, 1) := by decide +kernel
theorem dd_It_append_62 : decode bb_It_append 62 = .ok (.iconst 1, 1) := by decide +kernel
theorem dd_It_append_63 : decode bb_It_append 63 = .ok (.iadd, 1) := by decide +kernel
theorem dd_It_append_64 : decode bb_It_append 64 = .ok (.aload_n 0, 1) := by decide +kernel
theorem dd_It_append_65 : decode bb_It_append 65 = .ok (.getfield 27, 3) := by decide +kernel
theorem dd_It_append_68 : decode bb_It_append 68 = .ok (.iload_n 3, 1) := by decide +kernel
theorem dd_It_append_69 : decode bb_It_append 69 = .ok (.laload, 1) := by decide +kernel
theorem dd_It_append_70 : decode bb_It_append 70 = .ok (.iload_n 2, 1) := by decide +kernel
theorem dd_It_append_71 : decode bb_It_append 71 = .ok (.i2l, 1) := by decide +kernel
theorem dd_It_append_72 : decode bb_It_append 72 = .ok (.ladd, 1) := by decide +kernel
theorem dd_It_append_73 : decode bb_It_append 73 = .ok (.lastore, 1) := by decide +kernel
theorem dd_It_append_74 : decode bb_It_append 74 = .ok (.aload_n 0, 1) := by decide +kernel
theorem dd_It_append_75 : decode bb_It_append 75 = .ok (.getfield 31, 3) := by decide +kernel
theorem dd_It_append_78 : decode bb_It_append 78 = .ok (.iload_n 3, 1) := by decide +kernel
theorem dd_It_append_79 : decode bb_It_append 79 = .ok (.iconst 1, 1) := by decide +kernel
theorem dd_It_append_80 : decode bb_It_append 80 = .ok (.iadd, 1) := by decide +kernel
theorem dd_It_append_81 : decode bb_It_append 81 = .ok (.aload_n 0, 1) := by decide +kernel
theorem dd_It_append_82 : decode bb_It_append 82 = .ok (.getfield 31, 3) := by decide +kernel
theorem dd_It_append_85 : decode bb_It_append 85 = .ok (.iload_n 3, 1) := by decide +kernel
theorem dd_It_append_86 : decode bb_It_append 86 = .ok (.laload, 1) := by decide +kernel
theorem dd_It_append_87 : decode bb_It_append 87 = .ok (.lastore, 1) := by decide +kernel
theorem dd_It_append_88 : decode bb_It_append 88 = .ok (.aload_n 0, 1) := by decide +kernel
theorem dd_It_append_89 : decode bb_It_append 89 = .ok (.getfield 34, 3) := by decide +kernel
theorem dd_It_append_92 : decode bb_It_append 92 = .ok (.iload_n 3, 1) := by decide +kernel
theorem dd_It_append_93 : decode bb_It_append 93 = .ok (.iconst 1, 1) := by decide +kernel
theorem dd_It_append_94 : decode bb_It_append 94 = .ok (.iadd, 1) := by decide +kernel
theorem dd_It_append_95 : decode bb_It_append 95 = .ok (.aload_n 0, 1) := by decide +kernel
theorem dd_It_append_96 : decode bb_It_append 96 = .ok (.getfield 34, 3) := by decide +kernel
theorem dd_It_append_99 : decode bb_It_append 99 = .ok (.iload_n 3, 1) := by decide +kernel
theorem dd_It_append_100 : decode bb_It_append 100 = .ok (.laload, 1) := by decide +kernel
theorem dd_It_append_101 : decode bb_It_append 101 = .ok (.lastore, 1) := by decide +kernel
theorem dd_It_append_102 : decode bb_It_append 102 = .ok (.aload_n 0, 1) := by decide +kernel
theorem dd_It_append_103 : decode bb_It_append 103 = .ok (.getfield 37, 3) := by decide +kernel
theorem dd_It_append_106 : decode bb_It_append 106 = .ok (.iload_n 3, 1) := by decide +kernel
theorem dd_It_append_107 : decode bb_It_append 107 = .ok (.iconst 1, 1) := by decide +kernel
theorem dd_It_append_108 : decode bb_It_append 108 = .ok (.iadd, 1) := by decide +kernel
theorem dd_It_append_109 : decode bb_It_append 109 = .ok (.aload_n 0, 1) := by decide +kernel
theorem dd_It_append_110 : decode bb_It_append 110 = .ok (.getfield 37, 3) := by decide +kernel
theorem dd_It_append_113 : decode bb_It_append 113 = .ok (.iload_n 3, 1) := by decide +kernel
theorem dd_It_append_114 : decode bb_It_append 114 = .ok (.laload, 1) := by decide +kernel
theorem dd_It_append_115 : decode bb_It_append 115 = .ok (.lastore, 1) := by decide +kernel
theorem dd_It_append_116 : decode bb_It_append 116 = .ok (.aload_n 0, 1) := by decide +kernel
theorem dd_It_append_117 : decode bb_It_append 117 = .ok (.iload_n 3, 1) := by decide +kernel
theorem dd_It_append_118 : decode bb_It_append 118 = .ok (.iconst 1, 1) := by decide +kernel
theorem dd_It_append_119 : decode bb_It_append 119 = .ok (.iadd, 1) := by decide +kernel
theorem dd_It_append_120 : decode bb_It_append 120 = .ok (.putfield 40, 3) := by decide +kernel
theorem dd_It_append_123 : decode bb_It_append 123 = .ok (.iload_n 3, 1) := by decide +kernel
theorem dd_It_append_124 : decode bb_It_append 124 = .ok (.ireturn, 1) := by decide +kernel

set_option maxHeartbeats 4000000 in
set_option maxRecDepth 100000 in
theorem ct_It_append_f (l : Launch) (D : va_G) (cI cJ cZ : ClassId) (sz : Nat) (t : Nat) (cn : Nat) (i1 : Nat) (i2 : Nat) (i3 : Nat) (i4 : Nat) (i5 : Nat) (i6 : Nat) (i7 : Nat) (i8 : Nat) (i9 : Nat) (ln : Nat) (ik : Nat → Int32) (ic : Nat → Int32) (ia : Nat → Int32) (ib : Nat → Int32) (if_ : Nat → Int32) (iw : Nat → Int64) (is_ : Nat → Int64) (ih : Nat → Int64) (ij : Nat → Int64) (kd : Int32) (wd : Int32) (h1 : 4096 ≤ cn) (h2 : cn < 2 ^ 20) : kx_Mi l yy_It_append ww_It_append ({ frames := 0, cells := 0, slots := 0, locals := 0 }) D vwCl (kx_ty cI cJ cZ) [.ref t, .int kd, .int wd] [(t, .inr (4, [.int (nI cn), .ref i1, .ref i2, .ref i3, .ref i4, .ref i5, .ref i6, .ref i7, .ref i8, .ref i9])), (i1, .inl (cI, ln, .inl ik)), (i2, .inl (cI, ln, .inl ic)), (i3, .inl (cI, ln, .inl ia)), (i4, .inl (cI, ln, .inl ib)), (i5, .inl (cI, ln, .inl if_)), (i6, .inl (cJ, (ln + 1), .inr (.inl iw))), (i7, .inl (cJ, (ln + 1), .inr (.inl is_))), (i8, .inl (cJ, (ln + 1), .inr (.inl ih))), (i9, .inl (cJ, (ln + 1), .inr (.inl ij)))] sz (fun (r : Int32) (u : Unit) => r = (-1)) (fun (u : Unit) => [(t, .inr (4, [.int (nI cn), .ref i1, .ref i2, .ref i3, .ref i4, .ref i5, .ref i6, .ref i7, .ref i8, .ref i9])), (i1, .inl (cI, ln, .inl ik)), (i2, .inl (cI, ln, .inl ic)), (i3, .inl (cI, ln, .inl ia)), (i4, .inl (cI, ln, .inl ib)), (i5, .inl (cI, ln, .inl if_)), (i6, .inl (cJ, (ln + 1), .inr (.inl iw))), (i7, .inl (cJ, (ln + 1), .inr (.inl is_))), (i8, .inl (cJ, (ln + 1), .inr (.inl ih))), (i9, .inl (cJ, (ln + 1), .inr (.inl ij)))]) 0 0 := by
  refine kx_starti (by decide) rfl (Nat.le_of_ble_eq_true rfl) ?_
  intro p e s m below meth c A ls hx hb hr hml hts hown hlocks hin hP hK hN hD hA hS hl
  have hl : lv_has ls 4 [(0, .ref t), (1, .int kd), (2, .int wd)] := hl
  have hown : s.vm.findClass rr_It = some m.cls := hown
  have lk0 := hts _ (kx_m kw_131)
  have hin4 : ∀ w ∈ u_ws rr_It tt_It 10, w ∈ ww_It_append := fun w h => kx_m (kf_It w h)
  obtain ⟨H, hH⟩ : ∃ H, H = s.heap := ⟨_, rfl⟩
  obtain ⟨locs, hlocs⟩ : ∃ z : List Loc, z = [] := ⟨_, rfl⟩
  have hP : va_P D vwCl [(t, .inr (4, [.int (nI cn), .ref i1, .ref i2, .ref i3, .ref i4, .ref i5, .ref i6, .ref i7, .ref i8, .ref i9])), (i1, .inl (cI, ln, .inl ik)), (i2, .inl (cI, ln, .inl ic)), (i3, .inl (cI, ln, .inl ia)), (i4, .inl (cI, ln, .inl ib)), (i5, .inl (cI, ln, .inl if_)), (i6, .inl (cJ, (ln + 1), .inr (.inl iw))), (i7, .inl (cJ, (ln + 1), .inr (.inl is_))), (i8, .inl (cJ, (ln + 1), .inr (.inl ih))), (i9, .inl (cJ, (ln + 1), .inr (.inl ij)))] H := by rw [hH]; exact hP
  have hS : va_S A s.heap H locs := by rw [hH, hlocs]; exact hS
  refine kx_gen hH hlocs ?_
  clear hH hlocs
  refine kx_nameQ (fun Q hQ => ?_)
  refine lv_aload_n hx hb dd_It_append_0 rfl (lv_at hl 0 rfl) ?_
  refine va_get (D := D) (ci := 4) (v := .int (nI cn)) (C := rr_It) (T := tt_It) (N := 10) hx hb hts hin4 hown hK hP 0 kg_10_0 rfl 0 (by decide) lk0 (fun _ h9 => h9) rfl dd_It_append_1 ?_
  refine lv_sipush (v := nI 4096) hx hb dd_It_append_4 (by decide) ?_
  refine lv_icmp_lt (tgt := 12) hx hb dd_It_append_7 (by decide) (fun c7 => ?_) (fun c7 => ?_)
  · skip
    have c7 : cn < 4096 := (nI_ltI (by omega) (by omega)).mp c7
    exact absurd c7 (by omega)
  · skip
    have c7 : ¬ (cn < 4096) := fun h => c7 ((nI_ltI (by omega) (by omega)).mpr h)
    refine lv_iconst (v := (-1)) hx hb dd_It_append_10 (by decide) ?_
    rw [hQ]
    exact kx_iret hx hb hr hlocks hK hN hS dd_It_append_11 () hP hD rfl


set_option maxHeartbeats 4000000 in
set_option maxRecDepth 100000 in
theorem ct_It_append (l : Launch) (D : va_G) (cI cJ cZ : ClassId) (sz : Nat) (t : Nat) (cn : Nat) (i1 : Nat) (i2 : Nat) (i3 : Nat) (i4 : Nat) (i5 : Nat) (i6 : Nat) (i7 : Nat) (i8 : Nat) (i9 : Nat) (ln : Nat) (ik : Nat → Int32) (ic : Nat → Int32) (ia : Nat → Int32) (ib : Nat → Int32) (if_ : Nat → Int32) (iw : Nat → Int64) (is_ : Nat → Int64) (ih : Nat → Int64) (ij : Nat → Int64) (kd : Int32) (wd : Int32) (h1 : cn < 4096) (h2 : cn ≤ ln) (h3 : ln ≤ 4096) : kx_Mi l yy_It_append ww_It_append ({ frames := 3, cells := kg_c ln (cn + 1) 9, slots := kg_s ln (cn + 1) 4096 9 + kg_c ln (cn + 1) 4, locals := 76 }) D vwCl (kx_ty cI cJ cZ) [.ref t, .int kd, .int wd] [(t, .inr (4, [.int (nI cn), .ref i1, .ref i2, .ref i3, .ref i4, .ref i5, .ref i6, .ref i7, .ref i8, .ref i9])), (i1, .inl (cI, ln, .inl ik)), (i2, .inl (cI, ln, .inl ic)), (i3, .inl (cI, ln, .inl ia)), (i4, .inl (cI, ln, .inl ib)), (i5, .inl (cI, ln, .inl if_)), (i6, .inl (cJ, (ln + 1), .inr (.inl iw))), (i7, .inl (cJ, (ln + 1), .inr (.inl is_))), (i8, .inl (cJ, (ln + 1), .inr (.inl ih))), (i9, .inl (cJ, (ln + 1), .inr (.inl ij)))] sz (fun (r : Int32) (u : Nat × Nat × Nat × Nat × Nat × Nat × Nat × Nat × Nat × Nat × (Nat → Int32) × (Nat → Int32) × (Nat → Int32) × (Nat → Int32) × (Nat → Int32) × (Nat → Int64) × (Nat → Int64) × (Nat → Int64) × (Nat → Int64)) => (r = nI cn) ∧ (u.2.2.2.2.2.2.2.2.2.1 = kg_n ln (cn + 1) 4096 ∧ (∀ j, j < cn → u.2.2.2.2.2.2.2.2.2.2.1 j = ik j ∧ u.2.2.2.2.2.2.2.2.2.2.2.1 j = ic j ∧ u.2.2.2.2.2.2.2.2.2.2.2.2.1 j = ia j ∧ u.2.2.2.2.2.2.2.2.2.2.2.2.2.1 j = ib j ∧ u.2.2.2.2.2.2.2.2.2.2.2.2.2.2.1 j = if_ j) ∧ u.2.2.2.2.2.2.2.2.2.2.1 cn = kd ∧ (∀ j, j < cn + 1 → u.2.2.2.2.2.2.2.2.2.2.2.2.2.2.2.1 j = iw j ∧ u.2.2.2.2.2.2.2.2.2.2.2.2.2.2.2.2.1 j = is_ j ∧ u.2.2.2.2.2.2.2.2.2.2.2.2.2.2.2.2.2.1 j = ih j ∧ u.2.2.2.2.2.2.2.2.2.2.2.2.2.2.2.2.2.2 j = ij j) ∧ u.2.2.2.2.2.2.2.2.2.2.2.2.2.2.2.1 (cn + 1) = iw cn + wd.toInt64 ∧ u.2.2.2.2.2.2.2.2.2.2.2.2.2.2.2.2.1 (cn + 1) = is_ cn ∧ u.2.2.2.2.2.2.2.2.2.2.2.2.2.2.2.2.2.1 (cn + 1) = ih cn ∧ u.2.2.2.2.2.2.2.2.2.2.2.2.2.2.2.2.2.2 (cn + 1) = ij cn)) (fun (u : Nat × Nat × Nat × Nat × Nat × Nat × Nat × Nat × Nat × Nat × (Nat → Int32) × (Nat → Int32) × (Nat → Int32) × (Nat → Int32) × (Nat → Int32) × (Nat → Int64) × (Nat → Int64) × (Nat → Int64) × (Nat → Int64)) => [(t, .inr (4, [.int (nI (cn + 1)), .ref u.1, .ref u.2.1, .ref u.2.2.1, .ref u.2.2.2.1, .ref u.2.2.2.2.1, .ref u.2.2.2.2.2.1, .ref u.2.2.2.2.2.2.1, .ref u.2.2.2.2.2.2.2.1, .ref u.2.2.2.2.2.2.2.2.1])), (u.1, .inl (cI, u.2.2.2.2.2.2.2.2.2.1, .inl u.2.2.2.2.2.2.2.2.2.2.1)), (u.2.1, .inl (cI, u.2.2.2.2.2.2.2.2.2.1, .inl u.2.2.2.2.2.2.2.2.2.2.2.1)), (u.2.2.1, .inl (cI, u.2.2.2.2.2.2.2.2.2.1, .inl u.2.2.2.2.2.2.2.2.2.2.2.2.1)), (u.2.2.2.1, .inl (cI, u.2.2.2.2.2.2.2.2.2.1, .inl u.2.2.2.2.2.2.2.2.2.2.2.2.2.1)), (u.2.2.2.2.1, .inl (cI, u.2.2.2.2.2.2.2.2.2.1, .inl u.2.2.2.2.2.2.2.2.2.2.2.2.2.2.1)), (u.2.2.2.2.2.1, .inl (cJ, (u.2.2.2.2.2.2.2.2.2.1 + 1), .inr (.inl u.2.2.2.2.2.2.2.2.2.2.2.2.2.2.2.1))), (u.2.2.2.2.2.2.1, .inl (cJ, (u.2.2.2.2.2.2.2.2.2.1 + 1), .inr (.inl u.2.2.2.2.2.2.2.2.2.2.2.2.2.2.2.2.1))), (u.2.2.2.2.2.2.2.1, .inl (cJ, (u.2.2.2.2.2.2.2.2.2.1 + 1), .inr (.inl u.2.2.2.2.2.2.2.2.2.2.2.2.2.2.2.2.2.1))), (u.2.2.2.2.2.2.2.2.1, .inl (cJ, (u.2.2.2.2.2.2.2.2.2.1 + 1), .inr (.inl u.2.2.2.2.2.2.2.2.2.2.2.2.2.2.2.2.2.2)))]) (kg_c ln (cn + 1) 9) (kg_s ln (cn + 1) 4096 9 + kg_c ln (cn + 1) 4) := by
  refine kx_starti (by decide) rfl (Nat.le_of_ble_eq_true rfl) ?_
  intro p e s m below meth c A ls hx hb hr hml hts hown hlocks hin hP hK hN hD hA hS hl
  have hl : lv_has ls 4 [(0, .ref t), (1, .int kd), (2, .int wd)] := hl
  have hown : s.vm.findClass rr_It = some m.cls := hown
  have lk0 := hts _ (kx_m kw_131)
  have hin4 : ∀ w ∈ u_ws rr_It tt_It 10, w ∈ ww_It_append := fun w h => kx_m (kf_It w h)
  have lk2 := hts _ (kx_m kw_134)
  have lk3 := hts _ (kx_m kw_142)
  have lk4 := hts _ (kx_m kw_144)
  have lk5 := hts _ (kx_m kw_146)
  have lk6 := hts _ (kx_m kw_148)
  obtain ⟨H, hH⟩ : ∃ H, H = s.heap := ⟨_, rfl⟩
  obtain ⟨locs, hlocs⟩ : ∃ z : List Loc, z = [] := ⟨_, rfl⟩
  have hP : va_P D vwCl [(t, .inr (4, [.int (nI cn), .ref i1, .ref i2, .ref i3, .ref i4, .ref i5, .ref i6, .ref i7, .ref i8, .ref i9])), (i1, .inl (cI, ln, .inl ik)), (i2, .inl (cI, ln, .inl ic)), (i3, .inl (cI, ln, .inl ia)), (i4, .inl (cI, ln, .inl ib)), (i5, .inl (cI, ln, .inl if_)), (i6, .inl (cJ, (ln + 1), .inr (.inl iw))), (i7, .inl (cJ, (ln + 1), .inr (.inl is_))), (i8, .inl (cJ, (ln + 1), .inr (.inl ih))), (i9, .inl (cJ, (ln + 1), .inr (.inl ij)))] H := by rw [hH]; exact hP
  have hS : va_S A s.heap H locs := by rw [hH, hlocs]; exact hS
  refine kx_gen hH hlocs ?_
  clear hH hlocs
  refine kx_nameQ (fun Q hQ => ?_)
  refine lv_aload_n hx hb dd_It_append_0 rfl (lv_at hl 0 rfl) ?_
  refine va_get (D := D) (ci := 4) (v := .int (nI cn)) (C := rr_It) (T := tt_It) (N := 10) hx hb hts hin4 hown hK hP 0 kg_10_0 rfl 0 (by decide) lk0 (fun _ h9 => h9) rfl dd_It_append_1 ?_
  refine lv_sipush (v := nI 4096) hx hb dd_It_append_4 (by decide) ?_
  refine lv_icmp_lt (tgt := 12) hx hb dd_It_append_7 (by decide) (fun c7 => ?_) (fun c7 => ?_)
  · skip
    have c7 : cn < 4096 := (nI_ltI (by omega) (by omega)).mp c7
    refine lv_aload_n hx hb dd_It_append_12 rfl (lv_at hl 0 rfl) ?_
    refine va_get (D := D) (ci := 4) (v := .int (nI cn)) (C := rr_It) (T := tt_It) (N := 10) hx hb hts hin4 hown hK hP 0 kg_10_0 rfl 0 (by decide) lk0 (fun _ h9 => h9) rfl dd_It_append_13 ?_
    refine lv_aload_n hx hb dd_It_append_16 rfl (lv_at hl 0 rfl) ?_
    refine va_get (D := D) (ci := 4) (v := .ref i1) (C := rr_It) (T := tt_It) (N := 10) hx hb hts hin4 hown hK hP 0 kg_10_0 rfl 1 (by decide) lk2 (fun _ h9 => h9) rfl dd_It_append_17 ?_
    refine va_alen hx hb hK hP 1 0 kg_10_1 rfl (v := nI ln) rfl dd_It_append_20 ?_
    have K45 : ∀ (i1q : Nat) (i2q : Nat) (i3q : Nat) (i4q : Nat) (i5q : Nat) (i6q : Nat) (i7q : Nat) (i8q : Nat) (i9q : Nat) (lq : Nat) (ikq : Nat → Int32) (icq : Nat → Int32) (iaq : Nat → Int32) (ibq : Nat → Int32) (if_q : Nat → Int32) (iwq : Nat → Int64) (is_q : Nat → Int64) (ihq : Nat → Int64) (ijq : Nat → Int64), (lq = kg_n ln (cn + 1) 4096) → ((∀ j, j < cn → ikq j = ik j) ∧ (∀ j, j < cn → icq j = ic j) ∧ (∀ j, j < cn → iaq j = ia j) ∧ (∀ j, j < cn → ibq j = ib j) ∧ (∀ j, j < cn → if_q j = if_ j) ∧ (∀ j, j < cn + 1 → iwq j = iw j) ∧ (∀ j, j < cn + 1 → is_q j = is_ j) ∧ (∀ j, j < cn + 1 → ihq j = ih j) ∧ (∀ j, j < cn + 1 → ijq j = ij j)) → ∀ (H : Heap) (locs : List Loc), va_P D vwCl [(t, .inr (4, [.int (nI cn), .ref i1q, .ref i2q, .ref i3q, .ref i4q, .ref i5q, .ref i6q, .ref i7q, .ref i8q, .ref i9q])), (i1q, .inl (cI, lq, .inl ikq)), (i2q, .inl (cI, lq, .inl icq)), (i3q, .inl (cI, lq, .inl iaq)), (i4q, .inl (cI, lq, .inl ibq)), (i5q, .inl (cI, lq, .inl if_q)), (i6q, .inl (cJ, (lq + 1), .inr (.inl iwq))), (i7q, .inl (cJ, (lq + 1), .inr (.inl is_q))), (i8q, .inl (cJ, (lq + 1), .inr (.inl ihq))), (i9q, .inl (cJ, (lq + 1), .inr (.inl ijq)))] H → va_D A [(t, .inr (4, [.int (nI cn), .ref i1q, .ref i2q, .ref i3q, .ref i4q, .ref i5q, .ref i6q, .ref i7q, .ref i8q, .ref i9q])), (i1q, .inl (cI, lq, .inl ikq)), (i2q, .inl (cI, lq, .inl icq)), (i3q, .inl (cI, lq, .inl iaq)), (i4q, .inl (cI, lq, .inl ibq)), (i5q, .inl (cI, lq, .inl if_q)), (i6q, .inl (cJ, (lq + 1), .inr (.inl iwq))), (i7q, .inl (cJ, (lq + 1), .inr (.inl is_q))), (i8q, .inl (cJ, (lq + 1), .inr (.inl ihq))), (i9q, .inl (cJ, (lq + 1), .inr (.inl ijq)))] → va_S A s.heap H locs → ∀ (ls : Array Slot), lv_has ls 4 [(0, .ref t), (1, .int kd), (2, .int wd)] → W p l e (headSpec ww_It_append { frames := 3, cells := kg_c ln (cn + 1) 9, slots := kg_s ln (cn + 1) 4096 9 + kg_c ln (cn + 1) 4, locals := 76 }).room s m ([.ref t, .int kd, .int wd] : List Value).toArray below meth c H locs (kg_c ln (cn + 1) 9) (kg_s ln (cn + 1) 4096 9 + kg_c ln (cn + 1) 4) Q (F0 m 45 ls []) := by
      clear hP hD hS hl
      intro i1q i2q i3q i4q i5q i6q i7q i8q i9q lq ikq icq iaq ibq if_q iwq is_q ihq ijq hlq hsm H locs hP hD hS ls hl
      have hlq9 : cn + 1 ≤ lq := by rw [hlq]; unfold kg_n; split <;> omega
      have hlq8 : lq < 2 ^ 19 := by rw [hlq]; unfold kg_n; split <;> omega
      refine lv_aload_n hx hb dd_It_append_45 rfl (lv_at hl 0 rfl) ?_
      refine va_get (D := D) (ci := 4) (v := .int (nI cn)) (C := rr_It) (T := tt_It) (N := 10) hx hb hts hin4 hown hK hP 0 kg_10_0 rfl 0 (by decide) lk0 (fun _ h9 => h9) rfl dd_It_append_46 ?_
      refine lv_istore_n (lv' := [(3, .int (nI cn)), (0, .ref t), (1, .int kd), (2, .int wd)]) hx hb dd_It_append_49 rfl hl (by decide) rfl (fun ls hl => ?_)
      refine lv_aload_n hx hb dd_It_append_50 rfl (lv_at hl 1 rfl) ?_
      refine va_get (D := D) (ci := 4) (v := .ref i1q) (C := rr_It) (T := tt_It) (N := 10) hx hb hts hin4 hown hK hP 0 kg_10_0 rfl 1 (by decide) lk2 (fun _ h9 => h9) rfl dd_It_append_51 ?_
      refine lv_iload_n hx hb dd_It_append_54 rfl (lv_at hl 0 rfl) ?_
      refine lv_iload_n hx hb dd_It_append_55 rfl (lv_at hl 2 rfl) ?_
      refine kx_iast (q0 := 1) (t0 := 0) hx hb dd_It_append_56 hK hP hD hS kg_10_1 rfl (by omega) (by omega) (fun H locs hP hD hS => ?_)
      have hP : va_P D vwCl [(t, .inr (4, [.int (nI cn), .ref i1q, .ref i2q, .ref i3q, .ref i4q, .ref i5q, .ref i6q, .ref i7q, .ref i8q, .ref i9q])), (i1q, .inl (cI, lq, .inl (upd ikq cn kd))), (i2q, .inl (cI, lq, .inl icq)), (i3q, .inl (cI, lq, .inl iaq)), (i4q, .inl (cI, lq, .inl ibq)), (i5q, .inl (cI, lq, .inl if_q)), (i6q, .inl (cJ, (lq + 1), .inr (.inl iwq))), (i7q, .inl (cJ, (lq + 1), .inr (.inl is_q))), (i8q, .inl (cJ, (lq + 1), .inr (.inl ihq))), (i9q, .inl (cJ, (lq + 1), .inr (.inl ijq)))] H := kx_cP kz_10_1 hP
      have hD : va_D A [(t, .inr (4, [.int (nI cn), .ref i1q, .ref i2q, .ref i3q, .ref i4q, .ref i5q, .ref i6q, .ref i7q, .ref i8q, .ref i9q])), (i1q, .inl (cI, lq, .inl (upd ikq cn kd))), (i2q, .inl (cI, lq, .inl icq)), (i3q, .inl (cI, lq, .inl iaq)), (i4q, .inl (cI, lq, .inl ibq)), (i5q, .inl (cI, lq, .inl if_q)), (i6q, .inl (cJ, (lq + 1), .inr (.inl iwq))), (i7q, .inl (cJ, (lq + 1), .inr (.inl is_q))), (i8q, .inl (cJ, (lq + 1), .inr (.inl ihq))), (i9q, .inl (cJ, (lq + 1), .inr (.inl ijq)))] := kx_cD kz_10_1 hD
      refine lv_aload_n hx hb dd_It_append_57 rfl (lv_at hl 1 rfl) ?_
      refine va_get (D := D) (ci := 4) (v := .ref i6q) (C := rr_It) (T := tt_It) (N := 10) hx hb hts hin4 hown hK hP 0 kg_10_0 rfl 6 (by decide) lk3 (fun _ h9 => h9) rfl dd_It_append_58 ?_
      refine lv_iload_n hx hb dd_It_append_61 rfl (lv_at hl 0 rfl) ?_
      refine lv_iconst (v := nI 1) hx hb dd_It_append_62 (by decide) ?_
      refine kx_iadd hx hb dd_It_append_63 ?_
      refine lv_aload_n hx hb dd_It_append_64 rfl (lv_at hl 1 rfl) ?_
      refine va_get (D := D) (ci := 4) (v := .ref i6q) (C := rr_It) (T := tt_It) (N := 10) hx hb hts hin4 hown hK hP 0 kg_10_0 rfl 6 (by decide) lk3 (fun _ h9 => h9) rfl dd_It_append_65 ?_
      refine lv_iload_n hx hb dd_It_append_68 rfl (lv_at hl 0 rfl) ?_
      refine kx_lald (q0 := 6) (t0 := 1) hx hb dd_It_append_69 hK hP kg_10_6 rfl (by omega) (by omega) ?_
      refine lv_iload_n hx hb dd_It_append_70 rfl (lv_at hl 3 rfl) ?_
      refine lv_i2l hx hb dd_It_append_71 rfl ?_
      refine lv_ladd hx hb dd_It_append_72 ?_
      refine kx_last (q0 := 6) (t0 := 1) hx hb dd_It_append_73 hK hP hD hS kg_10_6 rfl (by omega) (by omega) (fun H locs hP hD hS => ?_)
      have hP : va_P D vwCl [(t, .inr (4, [.int (nI cn), .ref i1q, .ref i2q, .ref i3q, .ref i4q, .ref i5q, .ref i6q, .ref i7q, .ref i8q, .ref i9q])), (i1q, .inl (cI, lq, .inl (upd ikq cn kd))), (i2q, .inl (cI, lq, .inl icq)), (i3q, .inl (cI, lq, .inl iaq)), (i4q, .inl (cI, lq, .inl ibq)), (i5q, .inl (cI, lq, .inl if_q)), (i6q, .inl (cJ, (lq + 1), .inr (.inl (vp_updL iwq (cn + 1) ((iwq cn) + wd.toInt64))))), (i7q, .inl (cJ, (lq + 1), .inr (.inl is_q))), (i8q, .inl (cJ, (lq + 1), .inr (.inl ihq))), (i9q, .inl (cJ, (lq + 1), .inr (.inl ijq)))] H := kx_cP kz_10_6 hP
      have hD : va_D A [(t, .inr (4, [.int (nI cn), .ref i1q, .ref i2q, .ref i3q, .ref i4q, .ref i5q, .ref i6q, .ref i7q, .ref i8q, .ref i9q])), (i1q, .inl (cI, lq, .inl (upd ikq cn kd))), (i2q, .inl (cI, lq, .inl icq)), (i3q, .inl (cI, lq, .inl iaq)), (i4q, .inl (cI, lq, .inl ibq)), (i5q, .inl (cI, lq, .inl if_q)), (i6q, .inl (cJ, (lq + 1), .inr (.inl (vp_updL iwq (cn + 1) ((iwq cn) + wd.toInt64))))), (i7q, .inl (cJ, (lq + 1), .inr (.inl is_q))), (i8q, .inl (cJ, (lq + 1), .inr (.inl ihq))), (i9q, .inl (cJ, (lq + 1), .inr (.inl ijq)))] := kx_cD kz_10_6 hD
      refine lv_aload_n hx hb dd_It_append_74 rfl (lv_at hl 1 rfl) ?_
      refine va_get (D := D) (ci := 4) (v := .ref i7q) (C := rr_It) (T := tt_It) (N := 10) hx hb hts hin4 hown hK hP 0 kg_10_0 rfl 7 (by decide) lk4 (fun _ h9 => h9) rfl dd_It_append_75 ?_
      refine lv_iload_n hx hb dd_It_append_78 rfl (lv_at hl 0 rfl) ?_
      refine lv_iconst (v := nI 1) hx hb dd_It_append_79 (by decide) ?_
      refine kx_iadd hx hb dd_It_append_80 ?_
      refine lv_aload_n hx hb dd_It_append_81 rfl (lv_at hl 1 rfl) ?_
      refine va_get (D := D) (ci := 4) (v := .ref i7q) (C := rr_It) (T := tt_It) (N := 10) hx hb hts hin4 hown hK hP 0 kg_10_0 rfl 7 (by decide) lk4 (fun _ h9 => h9) rfl dd_It_append_82 ?_
      refine lv_iload_n hx hb dd_It_append_85 rfl (lv_at hl 0 rfl) ?_
      refine kx_lald (q0 := 7) (t0 := 1) hx hb dd_It_append_86 hK hP kg_10_7 rfl (by omega) (by omega) ?_
      refine kx_last (q0 := 7) (t0 := 1) hx hb dd_It_append_87 hK hP hD hS kg_10_7 rfl (by omega) (by omega) (fun H locs hP hD hS => ?_)
      have hP : va_P D vwCl [(t, .inr (4, [.int (nI cn), .ref i1q, .ref i2q, .ref i3q, .ref i4q, .ref i5q, .ref i6q, .ref i7q, .ref i8q, .ref i9q])), (i1q, .inl (cI, lq, .inl (upd ikq cn kd))), (i2q, .inl (cI, lq, .inl icq)), (i3q, .inl (cI, lq, .inl iaq)), (i4q, .inl (cI, lq, .inl ibq)), (i5q, .inl (cI, lq, .inl if_q)), (i6q, .inl (cJ, (lq + 1), .inr (.inl (vp_updL iwq (cn + 1) ((iwq cn) + wd.toInt64))))), (i7q, .inl (cJ, (lq + 1), .inr (.inl (vp_updL is_q (cn + 1) (is_q cn))))), (i8q, .inl (cJ, (lq + 1), .inr (.inl ihq))), (i9q, .inl (cJ, (lq + 1), .inr (.inl ijq)))] H := kx_cP kz_10_7 hP
      have hD : va_D A [(t, .inr (4, [.int (nI cn), .ref i1q, .ref i2q, .ref i3q, .ref i4q, .ref i5q, .ref i6q, .ref i7q, .ref i8q, .ref i9q])), (i1q, .inl (cI, lq, .inl (upd ikq cn kd))), (i2q, .inl (cI, lq, .inl icq)), (i3q, .inl (cI, lq, .inl iaq)), (i4q, .inl (cI, lq, .inl ibq)), (i5q, .inl (cI, lq, .inl if_q)), (i6q, .inl (cJ, (lq + 1), .inr (.inl (vp_updL iwq (cn + 1) ((iwq cn) + wd.toInt64))))), (i7q, .inl (cJ, (lq + 1), .inr (.inl (vp_updL is_q (cn + 1) (is_q cn))))), (i8q, .inl (cJ, (lq + 1), .inr (.inl ihq))), (i9q, .inl (cJ, (lq + 1), .inr (.inl ijq)))] := kx_cD kz_10_7 hD
      refine lv_aload_n hx hb dd_It_append_88 rfl (lv_at hl 1 rfl) ?_
      refine va_get (D := D) (ci := 4) (v := .ref i8q) (C := rr_It) (T := tt_It) (N := 10) hx hb hts hin4 hown hK hP 0 kg_10_0 rfl 8 (by decide) lk5 (fun _ h9 => h9) rfl dd_It_append_89 ?_
      refine lv_iload_n hx hb dd_It_append_92 rfl (lv_at hl 0 rfl) ?_
      refine lv_iconst (v := nI 1) hx hb dd_It_append_93 (by decide) ?_
      refine kx_iadd hx hb dd_It_append_94 ?_
      refine lv_aload_n hx hb dd_It_append_95 rfl (lv_at hl 1 rfl) ?_
      refine va_get (D := D) (ci := 4) (v := .ref i8q) (C := rr_It) (T := tt_It) (N := 10) hx hb hts hin4 hown hK hP 0 kg_10_0 rfl 8 (by decide) lk5 (fun _ h9 => h9) rfl dd_It_append_96 ?_
      refine lv_iload_n hx hb dd_It_append_99 rfl (lv_at hl 0 rfl) ?_
      refine kx_lald (q0 := 8) (t0 := 1) hx hb dd_It_append_100 hK hP kg_10_8 rfl (by omega) (by omega) ?_
      refine kx_last (q0 := 8) (t0 := 1) hx hb dd_It_append_101 hK hP hD hS kg_10_8 rfl (by omega) (by omega) (fun H locs hP hD hS => ?_)
      have hP : va_P D vwCl [(t, .inr (4, [.int (nI cn), .ref i1q, .ref i2q, .ref i3q, .ref i4q, .ref i5q, .ref i6q, .ref i7q, .ref i8q, .ref i9q])), (i1q, .inl (cI, lq, .inl (upd ikq cn kd))), (i2q, .inl (cI, lq, .inl icq)), (i3q, .inl (cI, lq, .inl iaq)), (i4q, .inl (cI, lq, .inl ibq)), (i5q, .inl (cI, lq, .inl if_q)), (i6q, .inl (cJ, (lq + 1), .inr (.inl (vp_updL iwq (cn + 1) ((iwq cn) + wd.toInt64))))), (i7q, .inl (cJ, (lq + 1), .inr (.inl (vp_updL is_q (cn + 1) (is_q cn))))), (i8q, .inl (cJ, (lq + 1), .inr (.inl (vp_updL ihq (cn + 1) (ihq cn))))), (i9q, .inl (cJ, (lq + 1), .inr (.inl ijq)))] H := kx_cP kz_10_8 hP
      have hD : va_D A [(t, .inr (4, [.int (nI cn), .ref i1q, .ref i2q, .ref i3q, .ref i4q, .ref i5q, .ref i6q, .ref i7q, .ref i8q, .ref i9q])), (i1q, .inl (cI, lq, .inl (upd ikq cn kd))), (i2q, .inl (cI, lq, .inl icq)), (i3q, .inl (cI, lq, .inl iaq)), (i4q, .inl (cI, lq, .inl ibq)), (i5q, .inl (cI, lq, .inl if_q)), (i6q, .inl (cJ, (lq + 1), .inr (.inl (vp_updL iwq (cn + 1) ((iwq cn) + wd.toInt64))))), (i7q, .inl (cJ, (lq + 1), .inr (.inl (vp_updL is_q (cn + 1) (is_q cn))))), (i8q, .inl (cJ, (lq + 1), .inr (.inl (vp_updL ihq (cn + 1) (ihq cn))))), (i9q, .inl (cJ, (lq + 1), .inr (.inl ijq)))] := kx_cD kz_10_8 hD
      refine lv_aload_n hx hb dd_It_append_102 rfl (lv_at hl 1 rfl) ?_
      refine va_get (D := D) (ci := 4) (v := .ref i9q) (C := rr_It) (T := tt_It) (N := 10) hx hb hts hin4 hown hK hP 0 kg_10_0 rfl 9 (by decide) lk6 (fun _ h9 => h9) rfl dd_It_append_103 ?_
      refine lv_iload_n hx hb dd_It_append_106 rfl (lv_at hl 0 rfl) ?_
      refine lv_iconst (v := nI 1) hx hb dd_It_append_107 (by decide) ?_
      refine kx_iadd hx hb dd_It_append_108 ?_
      refine lv_aload_n hx hb dd_It_append_109 rfl (lv_at hl 1 rfl) ?_
      refine va_get (D := D) (ci := 4) (v := .ref i9q) (C := rr_It) (T := tt_It) (N := 10) hx hb hts hin4 hown hK hP 0 kg_10_0 rfl 9 (by decide) lk6 (fun _ h9 => h9) rfl dd_It_append_110 ?_
      refine lv_iload_n hx hb dd_It_append_113 rfl (lv_at hl 0 rfl) ?_
      refine kx_lald (q0 := 9) (t0 := 1) hx hb dd_It_append_114 hK hP kg_10_9 rfl (by omega) (by omega) ?_
      refine kx_last (q0 := 9) (t0 := 1) hx hb dd_It_append_115 hK hP hD hS kg_10_9 rfl (by omega) (by omega) (fun H locs hP hD hS => ?_)
      have hP : va_P D vwCl [(t, .inr (4, [.int (nI cn), .ref i1q, .ref i2q, .ref i3q, .ref i4q, .ref i5q, .ref i6q, .ref i7q, .ref i8q, .ref i9q])), (i1q, .inl (cI, lq, .inl (upd ikq cn kd))), (i2q, .inl (cI, lq, .inl icq)), (i3q, .inl (cI, lq, .inl iaq)), (i4q, .inl (cI, lq, .inl ibq)), (i5q, .inl (cI, lq, .inl if_q)), (i6q, .inl (cJ, (lq + 1), .inr (.inl (vp_updL iwq (cn + 1) ((iwq cn) + wd.toInt64))))), (i7q, .inl (cJ, (lq + 1), .inr (.inl (vp_updL is_q (cn + 1) (is_q cn))))), (i8q, .inl (cJ, (lq + 1), .inr (.inl (vp_updL ihq (cn + 1) (ihq cn))))), (i9q, .inl (cJ, (lq + 1), .inr (.inl (vp_updL ijq (cn + 1) (ijq cn)))))] H := kx_cP kz_10_9 hP
      have hD : va_D A [(t, .inr (4, [.int (nI cn), .ref i1q, .ref i2q, .ref i3q, .ref i4q, .ref i5q, .ref i6q, .ref i7q, .ref i8q, .ref i9q])), (i1q, .inl (cI, lq, .inl (upd ikq cn kd))), (i2q, .inl (cI, lq, .inl icq)), (i3q, .inl (cI, lq, .inl iaq)), (i4q, .inl (cI, lq, .inl ibq)), (i5q, .inl (cI, lq, .inl if_q)), (i6q, .inl (cJ, (lq + 1), .inr (.inl (vp_updL iwq (cn + 1) ((iwq cn) + wd.toInt64))))), (i7q, .inl (cJ, (lq + 1), .inr (.inl (vp_updL is_q (cn + 1) (is_q cn))))), (i8q, .inl (cJ, (lq + 1), .inr (.inl (vp_updL ihq (cn + 1) (ihq cn))))), (i9q, .inl (cJ, (lq + 1), .inr (.inl (vp_updL ijq (cn + 1) (ijq cn)))))] := kx_cD kz_10_9 hD
      refine lv_aload_n hx hb dd_It_append_116 rfl (lv_at hl 1 rfl) ?_
      refine lv_iload_n hx hb dd_It_append_117 rfl (lv_at hl 0 rfl) ?_
      refine lv_iconst (v := nI 1) hx hb dd_It_append_118 (by decide) ?_
      refine kx_iadd hx hb dd_It_append_119 ?_
      refine va_put (D := D) (ci := 4) (v := .int (nI (cn + 1))) (ty := .int) (C := rr_It) (T := tt_It) (N := 10) hx hb hts hin4 ft_It ft_It_ok nn_It hown hK hP hD hS 0 kg_10_0 rfl 0 (by decide) lk0 (fun _ h9 => h9) rfl (by decide +kernel) rfl rfl (Nat.le_of_ble_eq_true rfl) dd_It_append_120 (fun H locs hP hD hS => ?_)
      have hP : va_P D vwCl [(t, .inr (4, [.int (nI (cn + 1)), .ref i1q, .ref i2q, .ref i3q, .ref i4q, .ref i5q, .ref i6q, .ref i7q, .ref i8q, .ref i9q])), (i1q, .inl (cI, lq, .inl (upd ikq cn kd))), (i2q, .inl (cI, lq, .inl icq)), (i3q, .inl (cI, lq, .inl iaq)), (i4q, .inl (cI, lq, .inl ibq)), (i5q, .inl (cI, lq, .inl if_q)), (i6q, .inl (cJ, (lq + 1), .inr (.inl (vp_updL iwq (cn + 1) ((iwq cn) + wd.toInt64))))), (i7q, .inl (cJ, (lq + 1), .inr (.inl (vp_updL is_q (cn + 1) (is_q cn))))), (i8q, .inl (cJ, (lq + 1), .inr (.inl (vp_updL ihq (cn + 1) (ihq cn))))), (i9q, .inl (cJ, (lq + 1), .inr (.inl (vp_updL ijq (cn + 1) (ijq cn)))))] H := kx_cP kz_10_0 hP
      have hD : va_D A [(t, .inr (4, [.int (nI (cn + 1)), .ref i1q, .ref i2q, .ref i3q, .ref i4q, .ref i5q, .ref i6q, .ref i7q, .ref i8q, .ref i9q])), (i1q, .inl (cI, lq, .inl (upd ikq cn kd))), (i2q, .inl (cI, lq, .inl icq)), (i3q, .inl (cI, lq, .inl iaq)), (i4q, .inl (cI, lq, .inl ibq)), (i5q, .inl (cI, lq, .inl if_q)), (i6q, .inl (cJ, (lq + 1), .inr (.inl (vp_updL iwq (cn + 1) ((iwq cn) + wd.toInt64))))), (i7q, .inl (cJ, (lq + 1), .inr (.inl (vp_updL is_q (cn + 1) (is_q cn))))), (i8q, .inl (cJ, (lq + 1), .inr (.inl (vp_updL ihq (cn + 1) (ihq cn))))), (i9q, .inl (cJ, (lq + 1), .inr (.inl (vp_updL ijq (cn + 1) (ijq cn)))))] := kx_cD kz_10_0 hD
      refine lv_iload_n hx hb dd_It_append_123 rfl (lv_at hl 0 rfl) ?_
      rw [hQ]
      refine kx_widen (k := kg_c ln (cn + 1) 9) (n := kg_s ln (cn + 1) 4096 9 + kg_c ln (cn + 1) 4) (Nat.le_refl _) (Nat.le_refl _) ?_
      exact kx_iret hx hb hr hlocks hK hN hS dd_It_append_124 (i1q, i2q, i3q, i4q, i5q, i6q, i7q, i8q, i9q, lq, upd ikq cn kd, icq, iaq, ibq, if_q, vp_updL iwq (cn + 1) ((iwq cn) + wd.toInt64), vp_updL is_q (cn + 1) (is_q cn), vp_updL ihq (cn + 1) (ihq cn), vp_updL ijq (cn + 1) (ijq cn)) hP hD (by obtain ⟨d1, d2, d3, d4, d5, d6, d7, d8, d9⟩ := hsm; exact ⟨rfl, hlq, fun j h => ⟨(by show upd ikq cn kd j = _; unfold upd; rw [if_neg (by omega)]; exact d1 j h), d2 j h, d3 j h, d4 j h, d5 j h⟩, (by show upd ikq cn kd cn = _; unfold upd; rw [if_pos rfl]), fun j h => ⟨(by show vp_updL iwq (cn + 1) _ j = _; unfold vp_updL; rw [if_neg (by omega)]; exact d6 j h), (by show vp_updL is_q (cn + 1) _ j = _; unfold vp_updL; rw [if_neg (by omega)]; exact d7 j h), (by show vp_updL ihq (cn + 1) _ j = _; unfold vp_updL; rw [if_neg (by omega)]; exact d8 j h), (by show vp_updL ijq (cn + 1) _ j = _; unfold vp_updL; rw [if_neg (by omega)]; exact d9 j h)⟩, (by show vp_updL iwq (cn + 1) _ (cn + 1) = _; unfold vp_updL; rw [if_pos rfl, d6 cn (by omega)]), (by show vp_updL is_q (cn + 1) _ (cn + 1) = _; unfold vp_updL; rw [if_pos rfl, d7 cn (by omega)]), (by show vp_updL ihq (cn + 1) _ (cn + 1) = _; unfold vp_updL; rw [if_pos rfl, d8 cn (by omega)]), (by show vp_updL ijq (cn + 1) _ (cn + 1) = _; unfold vp_updL; rw [if_pos rfl, d9 cn (by omega)])⟩)
    refine lv_icmp_lt (tgt := 45) hx hb dd_It_append_21 (by decide) (fun c21 => ?_) (fun c21 => ?_)
    · skip
      have c21 : cn < ln := (nI_ltI (by omega) (by omega)).mp c21
      refine kx_widen (k := kg_c ln (cn + 1) 9) (n := kg_s ln (cn + 1) 4096 9 + kg_c ln (cn + 1) 4) (by unfold kg_c; (first | rw [if_pos (show cn + 1 ≤ ln by omega)] | rw [if_neg (show ¬ cn + 1 ≤ ln by omega)]) <;> omega) (by unfold kg_s kg_c; (first | rw [if_pos (show cn + 1 ≤ ln by omega), if_pos (show cn + 1 ≤ ln by omega)] | rw [if_neg (show ¬ cn + 1 ≤ ln by omega), if_neg (show ¬ cn + 1 ≤ ln by omega)]) <;> omega) ?_
      exact K45 i1 i2 i3 i4 i5 i6 i7 i8 i9 ln ik ic ia ib if_ iw is_ ih ij (by unfold kg_n; first | rw [if_pos (show cn + 1 ≤ ln by omega)] | rw [if_neg (show ¬ cn + 1 ≤ ln by omega)]) (by first | exact ⟨fun _ _ => rfl, fun _ _ => rfl, fun _ _ => rfl, fun _ _ => rfl, fun _ _ => rfl, fun _ _ => rfl, fun _ _ => rfl, fun _ _ => rfl, fun _ _ => rfl⟩ | (obtain ⟨d1, d2, d3, d4, d5, d6, d7, d8, d9⟩ := hw42; exact ⟨fun j h => d1 j (by omega), fun j h => d2 j (by omega), fun j h => d3 j (by omega), fun j h => d4 j (by omega), fun j h => d5 j (by omega), fun j h => d6 j (by omega), fun j h => d7 j (by omega), fun j h => d8 j (by omega), fun j h => d9 j (by omega)⟩)) H locs hP hD hS ls (lv_sub hl [0, 1, 2] rfl)
    · skip
      have c21 : ¬ (cn < ln) := fun h => c21 ((nI_ltI (by omega) (by omega)).mpr h)
      refine lv_aload_n hx hb dd_It_append_24 rfl (lv_at hl 0 rfl) ?_
      refine lv_aload_n hx hb dd_It_append_25 rfl (lv_at hl 0 rfl) ?_
      refine va_get (D := D) (ci := 4) (v := .ref i1) (C := rr_It) (T := tt_It) (N := 10) hx hb hts hin4 hown hK hP 0 kg_10_0 rfl 1 (by decide) lk2 (fun _ h9 => h9) rfl dd_It_append_26 ?_
      refine va_alen hx hb hK hP 1 0 kg_10_1 rfl (v := nI ln) rfl dd_It_append_29 ?_
      refine lv_aload_n hx hb dd_It_append_30 rfl (lv_at hl 0 rfl) ?_
      refine va_get (D := D) (ci := 4) (v := .int (nI cn)) (C := rr_It) (T := tt_It) (N := 10) hx hb hts hin4 hown hK hP 0 kg_10_0 rfl 0 (by decide) lk0 (fun _ h9 => h9) rfl dd_It_append_31 ?_
      refine lv_iconst (v := nI 1) hx hb dd_It_append_34 (by decide) ?_
      refine kx_iadd hx hb dd_It_append_35 ?_
      refine lv_sipush (v := nI 4096) hx hb dd_It_append_36 (by decide) ?_
      refine kx_calli (wr := [(t, .inr (4, [.int (nI cn), .ref i1, .ref i2, .ref i3, .ref i4, .ref i5, .ref i6, .ref i7, .ref i8, .ref i9])), (i1, .inl (cI, ln, .inl ik)), (i2, .inl (cI, ln, .inl ic)), (i3, .inl (cI, ln, .inl ia)), (i4, .inl (cI, ln, .inl ib)), (i5, .inl (cI, ln, .inl if_)), (i6, .inl (cJ, (ln + 1), .inr (.inl iw))), (i7, .inl (cJ, (ln + 1), .inr (.inl is_))), (i8, .inl (cJ, (ln + 1), .inr (.inl ih))), (i9, .inl (cJ, (ln + 1), .inr (.inl ij)))]) (va_runSN (As := [.int (nI ln), .int (nI (cn + 1)), .int (nI 4096)]) (rest := [.ref t]) ⟨hx, hb, hml, hown, hts⟩ (ct_K_grown l D cI cJ cZ H.size ln (cn + 1) 4096 (by omega) (by omega) (by omega)) ⟨(va_cnB 3 hts (kx_good kw_419) rfl rfl rfl (kx_n459 hN) (hts _ (kx_m kw_44)) (by decide +kernel) ⟨Nat.le_of_ble_eq_true rfl, Nat.le_of_ble_eq_true rfl⟩), (hts _ (kx_m kw_418)), trivial⟩ (kx_preS hK hN (hP.sub [] kt_10_) (hD.sub [] (by decide) ks_10_)) rfl rfl hl.1 rfl (lv_room (Nat.le_of_ble_eq_true rfl)) dd_It_append_39 ⟨(by show 0 + 0 ≤ (kg_c ln (cn + 1) 9); omega), (by show 0 + 0 ≤ (kg_s ln (cn + 1) 4096 9 + kg_c ln (cn + 1) 4); omega)⟩) hP hD hS hA [] [0, 1, 2, 3, 4, 5, 6, 7, 8, 9] ks_10_ ks_10_0_1_2_3_4_5_6_7_8_9 (by decide) (by decide) (fun r39 u39 H locs hw39 hP hD hS => ?_)
      refine kx_bud (cells := 0) (slots := 0) ?_ (by omega) (by omega)
      have hP : va_P D vwCl [(t, .inr (4, [.int (nI cn), .ref i1, .ref i2, .ref i3, .ref i4, .ref i5, .ref i6, .ref i7, .ref i8, .ref i9])), (i1, .inl (cI, ln, .inl ik)), (i2, .inl (cI, ln, .inl ic)), (i3, .inl (cI, ln, .inl ia)), (i4, .inl (cI, ln, .inl ib)), (i5, .inl (cI, ln, .inl if_)), (i6, .inl (cJ, (ln + 1), .inr (.inl iw))), (i7, .inl (cJ, (ln + 1), .inr (.inl is_))), (i8, .inl (cJ, (ln + 1), .inr (.inl ih))), (i9, .inl (cJ, (ln + 1), .inr (.inl ij)))] H := hP
      have hD : va_D A [(t, .inr (4, [.int (nI cn), .ref i1, .ref i2, .ref i3, .ref i4, .ref i5, .ref i6, .ref i7, .ref i8, .ref i9])), (i1, .inl (cI, ln, .inl ik)), (i2, .inl (cI, ln, .inl ic)), (i3, .inl (cI, ln, .inl ia)), (i4, .inl (cI, ln, .inl ib)), (i5, .inl (cI, ln, .inl if_)), (i6, .inl (cJ, (ln + 1), .inr (.inl iw))), (i7, .inl (cJ, (ln + 1), .inr (.inl is_))), (i8, .inl (cJ, (ln + 1), .inr (.inl ih))), (i9, .inl (cJ, (ln + 1), .inr (.inl ij)))] := hD
      have hw39 : r39 = nI (max (cn + 1) (min 4096 (2 * ln))) := hw39
      subst hw39
      refine kx_callv (wr := []) (va_runV (C := rr_It) (As := [.int (nI (max (cn + 1) (min 4096 (2 * ln))))]) (rest := []) ⟨hx, hb, hml, hown, hts⟩ (ct_It_makeRoom l D cI cJ cZ H.size t cn i1 i2 i3 i4 i5 i6 i7 i8 i9 ln ik ic ia ib if_ iw is_ ih ij (max (cn + 1) (min 4096 (2 * ln))) (by omega) (by omega)) ⟨(callB_of 1 hts (kx_good kw_463) rfl rfl rfl (hts _ (kx_m kw_47)) (hts _ (kx_m kw_460)) (by decide +kernel) ⟨Nat.le_of_ble_eq_true rfl, Nat.le_of_ble_eq_true rfl⟩), (hts _ (kx_m kw_462)), (hts _ (kx_m kw_3))⟩ (kx_preV (ci := 4) (q0 := 0) hK hN (hP.sub [0, 1, 2, 3, 4, 5, 6, 7, 8, 9] kt_10_0_1_2_3_4_5_6_7_8_9) (hD.sub [0, 1, 2, 3, 4, 5, 6, 7, 8, 9] (by decide) ks_10_0_1_2_3_4_5_6_7_8_9) rfl kg_10_0) rfl rfl hl.1 rfl (lv_room (Nat.le_of_ble_eq_true rfl)) dd_It_append_42 ⟨(by show 0 + 9 ≤ (kg_c ln (cn + 1) 9); unfold kg_c; rw [if_neg (show ¬ cn + 1 ≤ ln by omega)]; omega), (by show 0 + (5 * (max (cn + 1) (min 4096 (2 * ln))) + 4 * ((max (cn + 1) (min 4096 (2 * ln))) + 1)) ≤ (kg_s ln (cn + 1) 4096 9 + kg_c ln (cn + 1) 4); unfold kg_s kg_c; rw [if_neg (show ¬ cn + 1 ≤ ln by omega), if_neg (show ¬ cn + 1 ≤ ln by omega)]; omega)⟩) hP hD hS hA [0, 1, 2, 3, 4, 5, 6, 7, 8, 9] [] ks_10_0_1_2_3_4_5_6_7_8_9 ks_10_ (by decide) (by decide) (fun u42 H locs hw42 hP hD hS => ?_)
      refine kx_bud (cells := 9) (slots := 5 * (max (cn + 1) (min 4096 (2 * ln))) + 4 * ((max (cn + 1) (min 4096 (2 * ln))) + 1)) ?_ (by omega) (by omega)
      obtain ⟨i12_42, i22_42, i32_42, i42_42, i52_42, i62_42, i72_42, i82_42, i92_42, ik2_42, ic2_42, ia2_42, ib2_42, if_2_42, iw2_42, is_2_42, ih2_42, ij2_42⟩ := u42
      have hP : va_P D vwCl [(t, .inr (4, [.int (nI cn), .ref i12_42, .ref i22_42, .ref i32_42, .ref i42_42, .ref i52_42, .ref i62_42, .ref i72_42, .ref i82_42, .ref i92_42])), (i12_42, .inl (cI, (max (cn + 1) (min 4096 (2 * ln))), .inl ik2_42)), (i22_42, .inl (cI, (max (cn + 1) (min 4096 (2 * ln))), .inl ic2_42)), (i32_42, .inl (cI, (max (cn + 1) (min 4096 (2 * ln))), .inl ia2_42)), (i42_42, .inl (cI, (max (cn + 1) (min 4096 (2 * ln))), .inl ib2_42)), (i52_42, .inl (cI, (max (cn + 1) (min 4096 (2 * ln))), .inl if_2_42)), (i62_42, .inl (cJ, ((max (cn + 1) (min 4096 (2 * ln))) + 1), .inr (.inl iw2_42))), (i72_42, .inl (cJ, ((max (cn + 1) (min 4096 (2 * ln))) + 1), .inr (.inl is_2_42))), (i82_42, .inl (cJ, ((max (cn + 1) (min 4096 (2 * ln))) + 1), .inr (.inl ih2_42))), (i92_42, .inl (cJ, ((max (cn + 1) (min 4096 (2 * ln))) + 1), .inr (.inl ij2_42)))] H := hP
      have hD : va_D A [(t, .inr (4, [.int (nI cn), .ref i12_42, .ref i22_42, .ref i32_42, .ref i42_42, .ref i52_42, .ref i62_42, .ref i72_42, .ref i82_42, .ref i92_42])), (i12_42, .inl (cI, (max (cn + 1) (min 4096 (2 * ln))), .inl ik2_42)), (i22_42, .inl (cI, (max (cn + 1) (min 4096 (2 * ln))), .inl ic2_42)), (i32_42, .inl (cI, (max (cn + 1) (min 4096 (2 * ln))), .inl ia2_42)), (i42_42, .inl (cI, (max (cn + 1) (min 4096 (2 * ln))), .inl ib2_42)), (i52_42, .inl (cI, (max (cn + 1) (min 4096 (2 * ln))), .inl if_2_42)), (i62_42, .inl (cJ, ((max (cn + 1) (min 4096 (2 * ln))) + 1), .inr (.inl iw2_42))), (i72_42, .inl (cJ, ((max (cn + 1) (min 4096 (2 * ln))) + 1), .inr (.inl is_2_42))), (i82_42, .inl (cJ, ((max (cn + 1) (min 4096 (2 * ln))) + 1), .inr (.inl ih2_42))), (i92_42, .inl (cJ, ((max (cn + 1) (min 4096 (2 * ln))) + 1), .inr (.inl ij2_42)))] := hD
      have hw42 : (∀ j, j < ln → ik2_42 j = ik j) ∧ (∀ j, j < ln → ic2_42 j = ic j) ∧ (∀ j, j < ln → ia2_42 j = ia j) ∧ (∀ j, j < ln → ib2_42 j = ib j) ∧ (∀ j, j < ln → if_2_42 j = if_ j) ∧ (∀ j, j < ln + 1 → iw2_42 j = iw j) ∧ (∀ j, j < ln + 1 → is_2_42 j = is_ j) ∧ (∀ j, j < ln + 1 → ih2_42 j = ih j) ∧ (∀ j, j < ln + 1 → ij2_42 j = ij j) := hw42
      refine kx_widen (k := kg_c ln (cn + 1) 9) (n := kg_s ln (cn + 1) 4096 9 + kg_c ln (cn + 1) 4) (by unfold kg_c; (first | rw [if_pos (show cn + 1 ≤ ln by omega)] | rw [if_neg (show ¬ cn + 1 ≤ ln by omega)]) <;> omega) (by unfold kg_s kg_c; (first | rw [if_pos (show cn + 1 ≤ ln by omega), if_pos (show cn + 1 ≤ ln by omega)] | rw [if_neg (show ¬ cn + 1 ≤ ln by omega), if_neg (show ¬ cn + 1 ≤ ln by omega)]) <;> omega) ?_
      exact K45 i12_42 i22_42 i32_42 i42_42 i52_42 i62_42 i72_42 i82_42 i92_42 (max (cn + 1) (min 4096 (2 * ln))) ik2_42 ic2_42 ia2_42 ib2_42 if_2_42 iw2_42 is_2_42 ih2_42 ij2_42 (by unfold kg_n; first | rw [if_pos (show cn + 1 ≤ ln by omega)] | rw [if_neg (show ¬ cn + 1 ≤ ln by omega)]) (by first | exact ⟨fun _ _ => rfl, fun _ _ => rfl, fun _ _ => rfl, fun _ _ => rfl, fun _ _ => rfl, fun _ _ => rfl, fun _ _ => rfl, fun _ _ => rfl, fun _ _ => rfl⟩ | (obtain ⟨d1, d2, d3, d4, d5, d6, d7, d8, d9⟩ := hw42; exact ⟨fun j h => d1 j (by omega), fun j h => d2 j (by omega), fun j h => d3 j (by omega), fun j h => d4 j (by omega), fun j h => d5 j (by omega), fun j h => d6 j (by omega), fun j h => d7 j (by omega), fun j h => d8 j (by omega), fun j h => d9 j (by omega)⟩)) H locs hP hD hS ls (lv_sub hl [0, 1, 2] rfl)
  · skip
    have c7 : ¬ (cn < 4096) := fun h => c7 ((nI_ltI (by omega) (by omega)).mpr h)
    exact absurd h1 c7
