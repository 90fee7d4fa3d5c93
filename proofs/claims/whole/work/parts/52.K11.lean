theorem kz_4_0 {c0 c1 c2 c3 : Nat × va_E} {x : Nat × va_E} : ([c0, c1, c2, c3] : va_W).set 0 x = [x, c1, c2, c3] := rfl
theorem kz_7_0 {c0 c1 c2 c3 c4 c5 c6 : Nat × va_E} {x : Nat × va_E} : ([c0, c1, c2, c3, c4, c5, c6] : va_W).set 0 x = [x, c1, c2, c3, c4, c5, c6] := rfl
theorem kw_99 : Cond.arrayClass .int ∈ kx_T := kx_in (i := 99) (by decide +kernel) (by decide +kernel)
theorem kw_171 : Cond.arrayClass .long ∈ kx_T := kx_in (i := 171) (by decide +kernel) (by decide +kernel)
theorem kw_224 : Cond.arrayClass .boolean ∈ kx_T := kx_in (i := 224) (by decide +kernel) (by decide +kernel)
theorem kw_355 : Cond.fieldLink rr_Md (15) "LineDesk$Made" "begin" "[I" ∈ kx_T := kx_in (i := 355) (by decide +kernel) (by decide +kernel)
theorem kw_357 : Cond.fieldLink rr_Md (19) "LineDesk$Made" "end" "[I" ∈ kx_T := kx_in (i := 357) (by decide +kernel) (by decide +kernel)
theorem kw_359 : Cond.fieldLink rr_Md (22) "LineDesk$Made" "badness" "[I" ∈ kx_T := kx_in (i := 359) (by decide +kernel) (by decide +kernel)
theorem kw_361 : Cond.fieldLink rr_Md (25) "LineDesk$Made" "fitClass" "[I" ∈ kx_T := kx_in (i := 361) (by decide +kernel) (by decide +kernel)
theorem kw_363 : Cond.fieldLink rr_Md (28) "LineDesk$Made" "out" "[I" ∈ kx_T := kx_in (i := 363) (by decide +kernel) (by decide +kernel)
theorem dd_Bk_makeRows_0 : decode bb_Bk_makeRows 0 = .ok (.aload_n 0, 1) := by decide +kernel
theorem dd_Bk_makeRows_1 : decode bb_Bk_makeRows 1 = .ok (.iload_n 1, 1) := by decide +kernel
theorem dd_Bk_makeRows_2 : decode bb_Bk_makeRows 2 = .ok (.newarray .int, 2) := by decide +kernel
theorem dd_Bk_makeRows_4 : decode bb_Bk_makeRows 4 = .ok (.putfield 15, 3) := by decide +kernel
theorem dd_Bk_makeRows_7 : decode bb_Bk_makeRows 7 = .ok (.aload_n 0, 1) := by decide +kernel
theorem dd_Bk_makeRows_8 : decode bb_Bk_makeRows 8 = .ok (.iload_n 1, 1) := by decide +kernel
theorem dd_Bk_makeRows_9 : decode bb_Bk_makeRows 9 = .ok (.newarray .int, 2) := by decide +kernel
theorem dd_Bk_makeRows_11 : decode bb_Bk_makeRows 11 = .ok (.putfield 19, 3) := by decide +kernel
theorem dd_Bk_makeRows_14 : decode bb_Bk_makeRows 14 = .ok (.aload_n 0, 1) := by decide +kernel
theorem dd_Bk_makeRows_15 : decode bb_Bk_makeRows 15 = .ok (.iload_n 1, 1) := by decide +kernel
theorem dd_Bk_makeRows_16 : decode bb_Bk_makeRows 16 = .ok (.newarray .int, 2) := by decide +kernel
theorem dd_Bk_makeRows_18 : decode bb_Bk_makeRows 18 = .ok (.putfield 22, 3) := by decide +kernel
theorem dd_Bk_makeRows_21 : decode bb_Bk_makeRows 21 = .ok (.aload_n 0, 1) := by decide +kernel
theorem dd_Bk_makeRows_22 : decode bb_Bk_makeRows 22 = .ok (.iload_n 1, 1) := by decide +kernel
theorem dd_Bk_makeRows_23 : decode bb_Bk_makeRows 23 = .ok (.newarray .int, 2) := by decide +kernel
theorem dd_Bk_makeRows_25 : decode bb_Bk_makeRows 25 = .ok (.putfield 25, 3) := by decide +kernel
theorem dd_Bk_makeRows_28 : decode bb_Bk_makeRows 28 = .ok (.aload_n 0, 1) := by decide +kernel
theorem dd_Bk_makeRows_29 : decode bb_Bk_makeRows 29 = .ok (.iload_n 1, 1) := by decide +kernel
theorem dd_Bk_makeRows_30 : decode bb_Bk_makeRows 30 = .ok (.newarray .int, 2) := by decide +kernel
theorem dd_Bk_makeRows_32 : decode bb_Bk_makeRows 32 = .ok (.putfield 28, 3) := by decide +kernel
theorem dd_Bk_makeRows_35 : decode bb_Bk_makeRows 35 = .ok (.aload_n 0, 1) := by decide +kernel
theorem dd_Bk_makeRows_36 : decode bb_Bk_makeRows 36 = .ok (.iload_n 1, 1) := by decide +kernel
theorem dd_Bk_makeRows_37 : decode bb_Bk_makeRows 37 = .ok (.newarray .int, 2) := by decide +kernel
theorem dd_Bk_makeRows_39 : decode bb_Bk_makeRows 39 = .ok (.putfield 31, 3) := by decide +kernel
theorem dd_Bk_makeRows_42 : decode bb_Bk_makeRows 42 = .ok (.aload_n 0, 1) := by decide +kernel
theorem dd_Bk_makeRows_43 : decode bb_Bk_makeRows 43 = .ok (.iload_n 1, 1) := by decide +kernel
theorem dd_Bk_makeRows_44 : decode bb_Bk_makeRows 44 = .ok (.newarray .boolean, 2) := by decide +kernel
theorem dd_Bk_makeRows_46 : decode bb_Bk_makeRows 46 = .ok (.putfield 34, 3) := by decide +kernel
theorem dd_Bk_makeRows_49 : decode bb_Bk_makeRows 49 = .ok (.return_, 1) := by decide +kernel

set_option maxHeartbeats 4000000 in
set_option maxRecDepth 100000 in
theorem ct_Bk_makeRows (l : Launch) (D : va_G) (cI cJ cZ : ClassId) (sz : Nat) (k : Nat) (bn : Nat) (lf : Nat) (x0 : Value) (x1 : Value) (x2 : Value) (x3 : Value) (x4 : Value) (x5 : Value) (x6 : Value) (rm : Nat) (hrm : rm < 2 ^ 20) : kx_Mv l yy_Bk_makeRows ww_Bk_makeRows ({ frames := 0, cells := 7, slots := 7 * rm, locals := 0 }) D vwCl (kx_ty cI cJ cZ) [.ref k, .int (nI rm)] [(k, .inr (2, [.int (nI bn), .int (nI lf), x0, x1, x2, x3, x4, x5, x6]))] sz (fun (u : Nat × Nat × Nat × Nat × Nat × Nat × Nat) => True) (fun (u : Nat × Nat × Nat × Nat × Nat × Nat × Nat) => [(k, .inr (2, [.int (nI bn), .int (nI lf), .ref u.1, .ref u.2.1, .ref u.2.2.1, .ref u.2.2.2.1, .ref u.2.2.2.2.1, .ref u.2.2.2.2.2.1, .ref u.2.2.2.2.2.2])), (u.1, .inl (cI, rm, .inl (fun _ => 0))), (u.2.1, .inl (cI, rm, .inl (fun _ => 0))), (u.2.2.1, .inl (cI, rm, .inl (fun _ => 0))), (u.2.2.2.1, .inl (cI, rm, .inl (fun _ => 0))), (u.2.2.2.2.1, .inl (cI, rm, .inl (fun _ => 0))), (u.2.2.2.2.2.1, .inl (cI, rm, .inl (fun _ => 0))), (u.2.2.2.2.2.2, .inl (cZ, rm, .inl (fun _ => 0)))]) 7 (7 * rm) := by
  refine kx_startv (by decide) rfl (Nat.le_of_ble_eq_true rfl) ?_
  intro p e s m below meth c A ls hx hb hr hml hts hown hlocks hin hP hK hN hD hA hS hl
  have hl : lv_has ls 2 [(0, .ref k), (1, .int (nI rm))] := hl
  have hown : s.vm.findClass rr_Bk = some m.cls := hown
  have lk0 := hts _ (kx_m kw_99)
  have lk1 := hts _ (kx_m kw_191)
  have hin2 : ∀ w ∈ u_ws rr_Bk tt_Bk 9, w ∈ ww_Bk_makeRows := fun w h => kx_m (kf_Bk w h)
  have lk3 := hts _ (kx_m kw_194)
  have lk4 := hts _ (kx_m kw_196)
  have lk5 := hts _ (kx_m kw_198)
  have lk6 := hts _ (kx_m kw_200)
  have lk7 := hts _ (kx_m kw_201)
  have lk8 := hts _ (kx_m kw_224)
  have lk9 := hts _ (kx_m kw_203)
  obtain ⟨H, hH⟩ : ∃ H, H = s.heap := ⟨_, rfl⟩
  obtain ⟨locs, hlocs⟩ : ∃ z : List Loc, z = [] := ⟨_, rfl⟩
  have hP : va_P D vwCl [(k, .inr (2, [.int (nI bn), .int (nI lf), x0, x1, x2, x3, x4, x5, x6]))] H := by rw [hH]; exact hP
  have hS : va_S A s.heap H locs := by rw [hH, hlocs]; exact hS
  refine kx_gen hH hlocs ?_
  clear hH hlocs
  refine kx_nameQ (fun Q hQ => ?_)
  refine lv_aload_n hx hb dd_Bk_makeRows_0 rfl (lv_at hl 0 rfl) ?_
  refine lv_iload_n hx hb dd_Bk_makeRows_1 rfl (lv_at hl 1 rfl) ?_
  refine kx_newi (N := rm) hx hb lk0 hK hP hD hS hA (by omega) (by show 0 + 1 ≤ 7; omega) (by show 0 + rm ≤ (7 * rm); omega) dd_Bk_makeRows_2 (fun w2 H hP hD hS => ?_)
  have hP : va_P D vwCl [(k, .inr (2, [.int (nI bn), .int (nI lf), x0, x1, x2, x3, x4, x5, x6])), (w2, .inl (cI, rm, .inl (fun _ => 0)))] H := hP
  have hD : va_D A [(k, .inr (2, [.int (nI bn), .int (nI lf), x0, x1, x2, x3, x4, x5, x6])), (w2, .inl (cI, rm, .inl (fun _ => 0)))] := hD
  refine kx_bud (cells := 1) (slots := rm) ?_ (by omega) (by omega)
  refine va_put (D := D) (ci := 2) (v := .ref w2) (ty := (.array .int)) (C := rr_Bk) (T := tt_Bk) (N := 9) hx hb hts hin2 ft_Bk ft_Bk_ok nn_Bk hown hK hP hD hS 0 kg_2_0 rfl 2 (by decide) lk1 (fun _ h9 => h9) rfl (by decide +kernel) rfl rfl (Nat.le_of_ble_eq_true rfl) dd_Bk_makeRows_4 (fun H locs hP hD hS => ?_)
  have hP : va_P D vwCl [(k, .inr (2, [.int (nI bn), .int (nI lf), .ref w2, x1, x2, x3, x4, x5, x6])), (w2, .inl (cI, rm, .inl (fun _ => 0)))] H := kx_cP kz_2_0 hP
  have hD : va_D A [(k, .inr (2, [.int (nI bn), .int (nI lf), .ref w2, x1, x2, x3, x4, x5, x6])), (w2, .inl (cI, rm, .inl (fun _ => 0)))] := kx_cD kz_2_0 hD
  refine lv_aload_n hx hb dd_Bk_makeRows_7 rfl (lv_at hl 0 rfl) ?_
  refine lv_iload_n hx hb dd_Bk_makeRows_8 rfl (lv_at hl 1 rfl) ?_
  refine kx_newi (N := rm) hx hb lk0 hK hP hD hS hA (by omega) (by show 1 + 1 ≤ 7; omega) (by show rm + rm ≤ (7 * rm); omega) dd_Bk_makeRows_9 (fun w9 H hP hD hS => ?_)
  have hP : va_P D vwCl [(k, .inr (2, [.int (nI bn), .int (nI lf), .ref w2, x1, x2, x3, x4, x5, x6])), (w2, .inl (cI, rm, .inl (fun _ => 0))), (w9, .inl (cI, rm, .inl (fun _ => 0)))] H := hP
  have hD : va_D A [(k, .inr (2, [.int (nI bn), .int (nI lf), .ref w2, x1, x2, x3, x4, x5, x6])), (w2, .inl (cI, rm, .inl (fun _ => 0))), (w9, .inl (cI, rm, .inl (fun _ => 0)))] := hD
  refine kx_bud (cells := 1 + 1) (slots := rm + rm) ?_ (by omega) (by omega)
  refine va_put (D := D) (ci := 2) (v := .ref w9) (ty := (.array .int)) (C := rr_Bk) (T := tt_Bk) (N := 9) hx hb hts hin2 ft_Bk ft_Bk_ok nn_Bk hown hK hP hD hS 0 kg_3_0 rfl 3 (by decide) lk3 (fun _ h9 => h9) rfl (by decide +kernel) rfl rfl (Nat.le_of_ble_eq_true rfl) dd_Bk_makeRows_11 (fun H locs hP hD hS => ?_)
  have hP : va_P D vwCl [(k, .inr (2, [.int (nI bn), .int (nI lf), .ref w2, .ref w9, x2, x3, x4, x5, x6])), (w2, .inl (cI, rm, .inl (fun _ => 0))), (w9, .inl (cI, rm, .inl (fun _ => 0)))] H := kx_cP kz_3_0 hP
  have hD : va_D A [(k, .inr (2, [.int (nI bn), .int (nI lf), .ref w2, .ref w9, x2, x3, x4, x5, x6])), (w2, .inl (cI, rm, .inl (fun _ => 0))), (w9, .inl (cI, rm, .inl (fun _ => 0)))] := kx_cD kz_3_0 hD
  refine lv_aload_n hx hb dd_Bk_makeRows_14 rfl (lv_at hl 0 rfl) ?_
  refine lv_iload_n hx hb dd_Bk_makeRows_15 rfl (lv_at hl 1 rfl) ?_
  refine kx_newi (N := rm) hx hb lk0 hK hP hD hS hA (by omega) (by show (1 + 1) + 1 ≤ 7; omega) (by show (rm + rm) + rm ≤ (7 * rm); omega) dd_Bk_makeRows_16 (fun w16 H hP hD hS => ?_)
  have hP : va_P D vwCl [(k, .inr (2, [.int (nI bn), .int (nI lf), .ref w2, .ref w9, x2, x3, x4, x5, x6])), (w2, .inl (cI, rm, .inl (fun _ => 0))), (w9, .inl (cI, rm, .inl (fun _ => 0))), (w16, .inl (cI, rm, .inl (fun _ => 0)))] H := hP
  have hD : va_D A [(k, .inr (2, [.int (nI bn), .int (nI lf), .ref w2, .ref w9, x2, x3, x4, x5, x6])), (w2, .inl (cI, rm, .inl (fun _ => 0))), (w9, .inl (cI, rm, .inl (fun _ => 0))), (w16, .inl (cI, rm, .inl (fun _ => 0)))] := hD
  refine kx_bud (cells := 1 + 1 + 1) (slots := rm + rm + rm) ?_ (by omega) (by omega)
  refine va_put (D := D) (ci := 2) (v := .ref w16) (ty := (.array .int)) (C := rr_Bk) (T := tt_Bk) (N := 9) hx hb hts hin2 ft_Bk ft_Bk_ok nn_Bk hown hK hP hD hS 0 kg_4_0 rfl 4 (by decide) lk4 (fun _ h9 => h9) rfl (by decide +kernel) rfl rfl (Nat.le_of_ble_eq_true rfl) dd_Bk_makeRows_18 (fun H locs hP hD hS => ?_)
  have hP : va_P D vwCl [(k, .inr (2, [.int (nI bn), .int (nI lf), .ref w2, .ref w9, .ref w16, x3, x4, x5, x6])), (w2, .inl (cI, rm, .inl (fun _ => 0))), (w9, .inl (cI, rm, .inl (fun _ => 0))), (w16, .inl (cI, rm, .inl (fun _ => 0)))] H := kx_cP kz_4_0 hP
  have hD : va_D A [(k, .inr (2, [.int (nI bn), .int (nI lf), .ref w2, .ref w9, .ref w16, x3, x4, x5, x6])), (w2, .inl (cI, rm, .inl (fun _ => 0))), (w9, .inl (cI, rm, .inl (fun _ => 0))), (w16, .inl (cI, rm, .inl (fun _ => 0)))] := kx_cD kz_4_0 hD
  refine lv_aload_n hx hb dd_Bk_makeRows_21 rfl (lv_at hl 0 rfl) ?_
  refine lv_iload_n hx hb dd_Bk_makeRows_22 rfl (lv_at hl 1 rfl) ?_
  refine kx_newi (N := rm) hx hb lk0 hK hP hD hS hA (by omega) (by show (1 + 1 + 1) + 1 ≤ 7; omega) (by show (rm + rm + rm) + rm ≤ (7 * rm); omega) dd_Bk_makeRows_23 (fun w23 H hP hD hS => ?_)
  have hP : va_P D vwCl [(k, .inr (2, [.int (nI bn), .int (nI lf), .ref w2, .ref w9, .ref w16, x3, x4, x5, x6])), (w2, .inl (cI, rm, .inl (fun _ => 0))), (w9, .inl (cI, rm, .inl (fun _ => 0))), (w16, .inl (cI, rm, .inl (fun _ => 0))), (w23, .inl (cI, rm, .inl (fun _ => 0)))] H := hP
  have hD : va_D A [(k, .inr (2, [.int (nI bn), .int (nI lf), .ref w2, .ref w9, .ref w16, x3, x4, x5, x6])), (w2, .inl (cI, rm, .inl (fun _ => 0))), (w9, .inl (cI, rm, .inl (fun _ => 0))), (w16, .inl (cI, rm, .inl (fun _ => 0))), (w23, .inl (cI, rm, .inl (fun _ => 0)))] := hD
  refine kx_bud (cells := 1 + 1 + 1 + 1) (slots := rm + rm + rm + rm) ?_ (by omega) (by omega)
  refine va_put (D := D) (ci := 2) (v := .ref w23) (ty := (.array .int)) (C := rr_Bk) (T := tt_Bk) (N := 9) hx hb hts hin2 ft_Bk ft_Bk_ok nn_Bk hown hK hP hD hS 0 kg_5_0 rfl 5 (by decide) lk5 (fun _ h9 => h9) rfl (by decide +kernel) rfl rfl (Nat.le_of_ble_eq_true rfl) dd_Bk_makeRows_25 (fun H locs hP hD hS => ?_)
  have hP : va_P D vwCl [(k, .inr (2, [.int (nI bn), .int (nI lf), .ref w2, .ref w9, .ref w16, .ref w23, x4, x5, x6])), (w2, .inl (cI, rm, .inl (fun _ => 0))), (w9, .inl (cI, rm, .inl (fun _ => 0))), (w16, .inl (cI, rm, .inl (fun _ => 0))), (w23, .inl (cI, rm, .inl (fun _ => 0)))] H := kx_cP kz_5_0 hP
  have hD : va_D A [(k, .inr (2, [.int (nI bn), .int (nI lf), .ref w2, .ref w9, .ref w16, .ref w23, x4, x5, x6])), (w2, .inl (cI, rm, .inl (fun _ => 0))), (w9, .inl (cI, rm, .inl (fun _ => 0))), (w16, .inl (cI, rm, .inl (fun _ => 0))), (w23, .inl (cI, rm, .inl (fun _ => 0)))] := kx_cD kz_5_0 hD
  refine lv_aload_n hx hb dd_Bk_makeRows_28 rfl (lv_at hl 0 rfl) ?_
  refine lv_iload_n hx hb dd_Bk_makeRows_29 rfl (lv_at hl 1 rfl) ?_
  refine kx_newi (N := rm) hx hb lk0 hK hP hD hS hA (by omega) (by show (1 + 1 + 1 + 1) + 1 ≤ 7; omega) (by show (rm + rm + rm + rm) + rm ≤ (7 * rm); omega) dd_Bk_makeRows_30 (fun w30 H hP hD hS => ?_)
  have hP : va_P D vwCl [(k, .inr (2, [.int (nI bn), .int (nI lf), .ref w2, .ref w9, .ref w16, .ref w23, x4, x5, x6])), (w2, .inl (cI, rm, .inl (fun _ => 0))), (w9, .inl (cI, rm, .inl (fun _ => 0))), (w16, .inl (cI, rm, .inl (fun _ => 0))), (w23, .inl (cI, rm, .inl (fun _ => 0))), (w30, .inl (cI, rm, .inl (fun _ => 0)))] H := hP
  have hD : va_D A [(k, .inr (2, [.int (nI bn), .int (nI lf), .ref w2, .ref w9, .ref w16, .ref w23, x4, x5, x6])), (w2, .inl (cI, rm, .inl (fun _ => 0))), (w9, .inl (cI, rm, .inl (fun _ => 0))), (w16, .inl (cI, rm, .inl (fun _ => 0))), (w23, .inl (cI, rm, .inl (fun _ => 0))), (w30, .inl (cI, rm, .inl (fun _ => 0)))] := hD
  refine kx_bud (cells := 1 + 1 + 1 + 1 + 1) (slots := rm + rm + rm + rm + rm) ?_ (by omega) (by omega)
  refine va_put (D := D) (ci := 2) (v := .ref w30) (ty := (.array .int)) (C := rr_Bk) (T := tt_Bk) (N := 9) hx hb hts hin2 ft_Bk ft_Bk_ok nn_Bk hown hK hP hD hS 0 kg_6_0 rfl 6 (by decide) lk6 (fun _ h9 => h9) rfl (by decide +kernel) rfl rfl (Nat.le_of_ble_eq_true rfl) dd_Bk_makeRows_32 (fun H locs hP hD hS => ?_)
  have hP : va_P D vwCl [(k, .inr (2, [.int (nI bn), .int (nI lf), .ref w2, .ref w9, .ref w16, .ref w23, .ref w30, x5, x6])), (w2, .inl (cI, rm, .inl (fun _ => 0))), (w9, .inl (cI, rm, .inl (fun _ => 0))), (w16, .inl (cI, rm, .inl (fun _ => 0))), (w23, .inl (cI, rm, .inl (fun _ => 0))), (w30, .inl (cI, rm, .inl (fun _ => 0)))] H := kx_cP kz_6_0 hP
  have hD : va_D A [(k, .inr (2, [.int (nI bn), .int (nI lf), .ref w2, .ref w9, .ref w16, .ref w23, .ref w30, x5, x6])), (w2, .inl (cI, rm, .inl (fun _ => 0))), (w9, .inl (cI, rm, .inl (fun _ => 0))), (w16, .inl (cI, rm, .inl (fun _ => 0))), (w23, .inl (cI, rm, .inl (fun _ => 0))), (w30, .inl (cI, rm, .inl (fun _ => 0)))] := kx_cD kz_6_0 hD
  refine lv_aload_n hx hb dd_Bk_makeRows_35 rfl (lv_at hl 0 rfl) ?_
  refine lv_iload_n hx hb dd_Bk_makeRows_36 rfl (lv_at hl 1 rfl) ?_
  refine kx_newi (N := rm) hx hb lk0 hK hP hD hS hA (by omega) (by show (1 + 1 + 1 + 1 + 1) + 1 ≤ 7; omega) (by show (rm + rm + rm + rm + rm) + rm ≤ (7 * rm); omega) dd_Bk_makeRows_37 (fun w37 H hP hD hS => ?_)
  have hP : va_P D vwCl [(k, .inr (2, [.int (nI bn), .int (nI lf), .ref w2, .ref w9, .ref w16, .ref w23, .ref w30, x5, x6])), (w2, .inl (cI, rm, .inl (fun _ => 0))), (w9, .inl (cI, rm, .inl (fun _ => 0))), (w16, .inl (cI, rm, .inl (fun _ => 0))), (w23, .inl (cI, rm, .inl (fun _ => 0))), (w30, .inl (cI, rm, .inl (fun _ => 0))), (w37, .inl (cI, rm, .inl (fun _ => 0)))] H := hP
  have hD : va_D A [(k, .inr (2, [.int (nI bn), .int (nI lf), .ref w2, .ref w9, .ref w16, .ref w23, .ref w30, x5, x6])), (w2, .inl (cI, rm, .inl (fun _ => 0))), (w9, .inl (cI, rm, .inl (fun _ => 0))), (w16, .inl (cI, rm, .inl (fun _ => 0))), (w23, .inl (cI, rm, .inl (fun _ => 0))), (w30, .inl (cI, rm, .inl (fun _ => 0))), (w37, .inl (cI, rm, .inl (fun _ => 0)))] := hD
  refine kx_bud (cells := 1 + 1 + 1 + 1 + 1 + 1) (slots := rm + rm + rm + rm + rm + rm) ?_ (by omega) (by omega)
  refine va_put (D := D) (ci := 2) (v := .ref w37) (ty := (.array .int)) (C := rr_Bk) (T := tt_Bk) (N := 9) hx hb hts hin2 ft_Bk ft_Bk_ok nn_Bk hown hK hP hD hS 0 kg_7_0 rfl 7 (by decide) lk7 (fun _ h9 => h9) rfl (by decide +kernel) rfl rfl (Nat.le_of_ble_eq_true rfl) dd_Bk_makeRows_39 (fun H locs hP hD hS => ?_)
  have hP : va_P D vwCl [(k, .inr (2, [.int (nI bn), .int (nI lf), .ref w2, .ref w9, .ref w16, .ref w23, .ref w30, .ref w37, x6])), (w2, .inl (cI, rm, .inl (fun _ => 0))), (w9, .inl (cI, rm, .inl (fun _ => 0))), (w16, .inl (cI, rm, .inl (fun _ => 0))), (w23, .inl (cI, rm, .inl (fun _ => 0))), (w30, .inl (cI, rm, .inl (fun _ => 0))), (w37, .inl (cI, rm, .inl (fun _ => 0)))] H := kx_cP kz_7_0 hP
  have hD : va_D A [(k, .inr (2, [.int (nI bn), .int (nI lf), .ref w2, .ref w9, .ref w16, .ref w23, .ref w30, .ref w37, x6])), (w2, .inl (cI, rm, .inl (fun _ => 0))), (w9, .inl (cI, rm, .inl (fun _ => 0))), (w16, .inl (cI, rm, .inl (fun _ => 0))), (w23, .inl (cI, rm, .inl (fun _ => 0))), (w30, .inl (cI, rm, .inl (fun _ => 0))), (w37, .inl (cI, rm, .inl (fun _ => 0)))] := kx_cD kz_7_0 hD
  refine lv_aload_n hx hb dd_Bk_makeRows_42 rfl (lv_at hl 0 rfl) ?_
  refine lv_iload_n hx hb dd_Bk_makeRows_43 rfl (lv_at hl 1 rfl) ?_
  refine kx_newz (N := rm) hx hb lk8 hK hP hD hS hA (by omega) (by show (1 + 1 + 1 + 1 + 1 + 1) + 1 ≤ 7; omega) (by show (rm + rm + rm + rm + rm + rm) + rm ≤ (7 * rm); omega) dd_Bk_makeRows_44 (fun w44 H hP hD hS => ?_)
  have hP : va_P D vwCl [(k, .inr (2, [.int (nI bn), .int (nI lf), .ref w2, .ref w9, .ref w16, .ref w23, .ref w30, .ref w37, x6])), (w2, .inl (cI, rm, .inl (fun _ => 0))), (w9, .inl (cI, rm, .inl (fun _ => 0))), (w16, .inl (cI, rm, .inl (fun _ => 0))), (w23, .inl (cI, rm, .inl (fun _ => 0))), (w30, .inl (cI, rm, .inl (fun _ => 0))), (w37, .inl (cI, rm, .inl (fun _ => 0))), (w44, .inl (cZ, rm, .inl (fun _ => 0)))] H := hP
  have hD : va_D A [(k, .inr (2, [.int (nI bn), .int (nI lf), .ref w2, .ref w9, .ref w16, .ref w23, .ref w30, .ref w37, x6])), (w2, .inl (cI, rm, .inl (fun _ => 0))), (w9, .inl (cI, rm, .inl (fun _ => 0))), (w16, .inl (cI, rm, .inl (fun _ => 0))), (w23, .inl (cI, rm, .inl (fun _ => 0))), (w30, .inl (cI, rm, .inl (fun _ => 0))), (w37, .inl (cI, rm, .inl (fun _ => 0))), (w44, .inl (cZ, rm, .inl (fun _ => 0)))] := hD
  refine kx_bud (cells := 1 + 1 + 1 + 1 + 1 + 1 + 1) (slots := rm + rm + rm + rm + rm + rm + rm) ?_ (by omega) (by omega)
  refine va_put (D := D) (ci := 2) (v := .ref w44) (ty := (.array .boolean)) (C := rr_Bk) (T := tt_Bk) (N := 9) hx hb hts hin2 ft_Bk ft_Bk_ok nn_Bk hown hK hP hD hS 0 kg_8_0 rfl 8 (by decide) lk9 (fun _ h9 => h9) rfl (by decide +kernel) rfl rfl (Nat.le_of_ble_eq_true rfl) dd_Bk_makeRows_46 (fun H locs hP hD hS => ?_)
  have hP : va_P D vwCl [(k, .inr (2, [.int (nI bn), .int (nI lf), .ref w2, .ref w9, .ref w16, .ref w23, .ref w30, .ref w37, .ref w44])), (w2, .inl (cI, rm, .inl (fun _ => 0))), (w9, .inl (cI, rm, .inl (fun _ => 0))), (w16, .inl (cI, rm, .inl (fun _ => 0))), (w23, .inl (cI, rm, .inl (fun _ => 0))), (w30, .inl (cI, rm, .inl (fun _ => 0))), (w37, .inl (cI, rm, .inl (fun _ => 0))), (w44, .inl (cZ, rm, .inl (fun _ => 0)))] H := kx_cP kz_8_0 hP
  have hD : va_D A [(k, .inr (2, [.int (nI bn), .int (nI lf), .ref w2, .ref w9, .ref w16, .ref w23, .ref w30, .ref w37, .ref w44])), (w2, .inl (cI, rm, .inl (fun _ => 0))), (w9, .inl (cI, rm, .inl (fun _ => 0))), (w16, .inl (cI, rm, .inl (fun _ => 0))), (w23, .inl (cI, rm, .inl (fun _ => 0))), (w30, .inl (cI, rm, .inl (fun _ => 0))), (w37, .inl (cI, rm, .inl (fun _ => 0))), (w44, .inl (cZ, rm, .inl (fun _ => 0)))] := kx_cD kz_8_0 hD
  rw [hQ]
  refine kx_widen (k := 7) (n := 7 * rm) (by omega) (by omega) ?_
  exact kx_vret hx hb hr hlocks hK hN hS dd_Bk_makeRows_49 (w2, w9, w16, w23, w30, w37, w44) hP hD trivial

theorem dd_Rw_makeRows_0 : decode bb_Rw_makeRows 0 = .ok (.aload_n 0, 1) := by decide +kernel
theorem dd_Rw_makeRows_1 : decode bb_Rw_makeRows 1 = .ok (.iload_n 1, 1) := by decide +kernel
theorem dd_Rw_makeRows_2 : decode bb_Rw_makeRows 2 = .ok (.newarray .long, 2) := by decide +kernel
theorem dd_Rw_makeRows_4 : decode bb_Rw_makeRows 4 = .ok (.putfield 15, 3) := by decide +kernel
theorem dd_Rw_makeRows_7 : decode bb_Rw_makeRows 7 = .ok (.aload_n 0, 1) := by decide +kernel
theorem dd_Rw_makeRows_8 : decode bb_Rw_makeRows 8 = .ok (.iload_n 1, 1) := by decide +kernel
theorem dd_Rw_makeRows_9 : decode bb_Rw_makeRows 9 = .ok (.newarray .int, 2) := by decide +kernel
theorem dd_Rw_makeRows_11 : decode bb_Rw_makeRows 11 = .ok (.putfield 19, 3) := by decide +kernel
theorem dd_Rw_makeRows_14 : decode bb_Rw_makeRows 14 = .ok (.aload_n 0, 1) := by decide +kernel
theorem dd_Rw_makeRows_15 : decode bb_Rw_makeRows 15 = .ok (.iload_n 1, 1) := by decide +kernel
theorem dd_Rw_makeRows_16 : decode bb_Rw_makeRows 16 = .ok (.newarray .long, 2) := by decide +kernel
theorem dd_Rw_makeRows_18 : decode bb_Rw_makeRows 18 = .ok (.putfield 23, 3) := by decide +kernel
theorem dd_Rw_makeRows_21 : decode bb_Rw_makeRows 21 = .ok (.aload_n 0, 1) := by decide +kernel
theorem dd_Rw_makeRows_22 : decode bb_Rw_makeRows 22 = .ok (.iload_n 1, 1) := by decide +kernel
theorem dd_Rw_makeRows_23 : decode bb_Rw_makeRows 23 = .ok (.newarray .int, 2) := by decide +kernel
theorem dd_Rw_makeRows_25 : decode bb_Rw_makeRows 25 = .ok (.putfield 26, 3) := by decide +kernel
theorem dd_Rw_makeRows_28 : decode bb_Rw_makeRows 28 = .ok (.return_, 1) := by decide +kernel

set_option maxHeartbeats 4000000 in
set_option maxRecDepth 100000 in
theorem ct_Rw_makeRows (l : Launch) (D : va_G) (cI cJ cZ : ClassId) (sz : Nat) (o : Nat) (an : Int32) (x0 : Value) (x1 : Value) (x2 : Value) (x3 : Value) (rm : Nat) (hrm : rm < 2 ^ 20) : kx_Mv l yy_Rw_makeRows ww_Rw_makeRows ({ frames := 0, cells := 4, slots := 4 * rm, locals := 0 }) D vwCl (kx_ty cI cJ cZ) [.ref o, .int (nI rm)] [(o, .inr (6, [.int an, x0, x1, x2, x3]))] sz (fun (u : Nat × Nat × Nat × Nat) => True) (fun (u : Nat × Nat × Nat × Nat) => [(o, .inr (6, [.int an, .ref u.1, .ref u.2.1, .ref u.2.2.1, .ref u.2.2.2])), (u.1, .inl (cJ, rm, .inr (.inl (fun _ => 0)))), (u.2.1, .inl (cI, rm, .inl (fun _ => 0))), (u.2.2.1, .inl (cJ, rm, .inr (.inl (fun _ => 0)))), (u.2.2.2, .inl (cI, rm, .inl (fun _ => 0)))]) 4 (4 * rm) := by
  refine kx_startv (by decide) rfl (Nat.le_of_ble_eq_true rfl) ?_
  intro p e s m below meth c A ls hx hb hr hml hts hown hlocks hin hP hK hN hD hA hS hl
  have hl : lv_has ls 2 [(0, .ref o), (1, .int (nI rm))] := hl
  have hown : s.vm.findClass rr_Rw = some m.cls := hown
  have lk0 := hts _ (kx_m kw_171)
  have lk1 := hts _ (kx_m kw_259)
  have hin6 : ∀ w ∈ u_ws rr_Rw tt_Rw 5, w ∈ ww_Rw_makeRows := fun w h => kx_m (kf_Rw w h)
  have lk3 := hts _ (kx_m kw_99)
  have lk4 := hts _ (kx_m kw_261)
  have lk5 := hts _ (kx_m kw_263)
  have lk6 := hts _ (kx_m kw_265)
  obtain ⟨H, hH⟩ : ∃ H, H = s.heap := ⟨_, rfl⟩
  obtain ⟨locs, hlocs⟩ : ∃ z : List Loc, z = [] := ⟨_, rfl⟩
  have hP : va_P D vwCl [(o, .inr (6, [.int an, x0, x1, x2, x3]))] H := by rw [hH]; exact hP
  have hS : va_S A s.heap H locs := by rw [hH, hlocs]; exact hS
  refine kx_gen hH hlocs ?_
  clear hH hlocs
  refine kx_nameQ (fun Q hQ => ?_)
  refine lv_aload_n hx hb dd_Rw_makeRows_0 rfl (lv_at hl 0 rfl) ?_
  refine lv_iload_n hx hb dd_Rw_makeRows_1 rfl (lv_at hl 1 rfl) ?_
  refine kx_newj (N := rm) hx hb lk0 hK hP hD hS hA (by omega) (by show 0 + 1 ≤ 4; omega) (by show 0 + rm ≤ (4 * rm); omega) dd_Rw_makeRows_2 (fun w2 H hP hD hS => ?_)
  have hP : va_P D vwCl [(o, .inr (6, [.int an, x0, x1, x2, x3])), (w2, .inl (cJ, rm, .inr (.inl (fun _ => 0))))] H := hP
  have hD : va_D A [(o, .inr (6, [.int an, x0, x1, x2, x3])), (w2, .inl (cJ, rm, .inr (.inl (fun _ => 0))))] := hD
  refine kx_bud (cells := 1) (slots := rm) ?_ (by omega) (by omega)
  refine va_put (D := D) (ci := 6) (v := .ref w2) (ty := (.array .long)) (C := rr_Rw) (T := tt_Rw) (N := 5) hx hb hts hin6 ft_Rw ft_Rw_ok nn_Rw hown hK hP hD hS 0 kg_2_0 rfl 1 (by decide) lk1 (fun _ h9 => h9) rfl (by decide +kernel) rfl rfl (Nat.le_of_ble_eq_true rfl) dd_Rw_makeRows_4 (fun H locs hP hD hS => ?_)
  have hP : va_P D vwCl [(o, .inr (6, [.int an, .ref w2, x1, x2, x3])), (w2, .inl (cJ, rm, .inr (.inl (fun _ => 0))))] H := kx_cP kz_2_0 hP
  have hD : va_D A [(o, .inr (6, [.int an, .ref w2, x1, x2, x3])), (w2, .inl (cJ, rm, .inr (.inl (fun _ => 0))))] := kx_cD kz_2_0 hD
  refine lv_aload_n hx hb dd_Rw_makeRows_7 rfl (lv_at hl 0 rfl) ?_
  refine lv_iload_n hx hb dd_Rw_makeRows_8 rfl (lv_at hl 1 rfl) ?_
  refine kx_newi (N := rm) hx hb lk3 hK hP hD hS hA (by omega) (by show 1 + 1 ≤ 4; omega) (by show rm + rm ≤ (4 * rm); omega) dd_Rw_makeRows_9 (fun w9 H hP hD hS => ?_)
  have hP : va_P D vwCl [(o, .inr (6, [.int an, .ref w2, x1, x2, x3])), (w2, .inl (cJ, rm, .inr (.inl (fun _ => 0)))), (w9, .inl (cI, rm, .inl (fun _ => 0)))] H := hP
  have hD : va_D A [(o, .inr (6, [.int an, .ref w2, x1, x2, x3])), (w2, .inl (cJ, rm, .inr (.inl (fun _ => 0)))), (w9, .inl (cI, rm, .inl (fun _ => 0)))] := hD
  refine kx_bud (cells := 1 + 1) (slots := rm + rm) ?_ (by omega) (by omega)
  refine va_put (D := D) (ci := 6) (v := .ref w9) (ty := (.array .int)) (C := rr_Rw) (T := tt_Rw) (N := 5) hx hb hts hin6 ft_Rw ft_Rw_ok nn_Rw hown hK hP hD hS 0 kg_3_0 rfl 2 (by decide) lk4 (fun _ h9 => h9) rfl (by decide +kernel) rfl rfl (Nat.le_of_ble_eq_true rfl) dd_Rw_makeRows_11 (fun H locs hP hD hS => ?_)
  have hP : va_P D vwCl [(o, .inr (6, [.int an, .ref w2, .ref w9, x2, x3])), (w2, .inl (cJ, rm, .inr (.inl (fun _ => 0)))), (w9, .inl (cI, rm, .inl (fun _ => 0)))] H := kx_cP kz_3_0 hP
  have hD : va_D A [(o, .inr (6, [.int an, .ref w2, .ref w9, x2, x3])), (w2, .inl (cJ, rm, .inr (.inl (fun _ => 0)))), (w9, .inl (cI, rm, .inl (fun _ => 0)))] := kx_cD kz_3_0 hD
  refine lv_aload_n hx hb dd_Rw_makeRows_14 rfl (lv_at hl 0 rfl) ?_
  refine lv_iload_n hx hb dd_Rw_makeRows_15 rfl (lv_at hl 1 rfl) ?_
  refine kx_newj (N := rm) hx hb lk0 hK hP hD hS hA (by omega) (by show (1 + 1) + 1 ≤ 4; omega) (by show (rm + rm) + rm ≤ (4 * rm); omega) dd_Rw_makeRows_16 (fun w16 H hP hD hS => ?_)
  have hP : va_P D vwCl [(o, .inr (6, [.int an, .ref w2, .ref w9, x2, x3])), (w2, .inl (cJ, rm, .inr (.inl (fun _ => 0)))), (w9, .inl (cI, rm, .inl (fun _ => 0))), (w16, .inl (cJ, rm, .inr (.inl (fun _ => 0))))] H := hP
  have hD : va_D A [(o, .inr (6, [.int an, .ref w2, .ref w9, x2, x3])), (w2, .inl (cJ, rm, .inr (.inl (fun _ => 0)))), (w9, .inl (cI, rm, .inl (fun _ => 0))), (w16, .inl (cJ, rm, .inr (.inl (fun _ => 0))))] := hD
  refine kx_bud (cells := 1 + 1 + 1) (slots := rm + rm + rm) ?_ (by omega) (by omega)
  refine va_put (D := D) (ci := 6) (v := .ref w16) (ty := (.array .long)) (C := rr_Rw) (T := tt_Rw) (N := 5) hx hb hts hin6 ft_Rw ft_Rw_ok nn_Rw hown hK hP hD hS 0 kg_4_0 rfl 3 (by decide) lk5 (fun _ h9 => h9) rfl (by decide +kernel) rfl rfl (Nat.le_of_ble_eq_true rfl) dd_Rw_makeRows_18 (fun H locs hP hD hS => ?_)
  have hP : va_P D vwCl [(o, .inr (6, [.int an, .ref w2, .ref w9, .ref w16, x3])), (w2, .inl (cJ, rm, .inr (.inl (fun _ => 0)))), (w9, .inl (cI, rm, .inl (fun _ => 0))), (w16, .inl (cJ, rm, .inr (.inl (fun _ => 0))))] H := kx_cP kz_4_0 hP
  have hD : va_D A [(o, .inr (6, [.int an, .ref w2, .ref w9, .ref w16, x3])), (w2, .inl (cJ, rm, .inr (.inl (fun _ => 0)))), (w9, .inl (cI, rm, .inl (fun _ => 0))), (w16, .inl (cJ, rm, .inr (.inl (fun _ => 0))))] := kx_cD kz_4_0 hD
  refine lv_aload_n hx hb dd_Rw_makeRows_21 rfl (lv_at hl 0 rfl) ?_
  refine lv_iload_n hx hb dd_Rw_makeRows_22 rfl (lv_at hl 1 rfl) ?_
  refine kx_newi (N := rm) hx hb lk3 hK hP hD hS hA (by omega) (by show (1 + 1 + 1) + 1 ≤ 4; omega) (by show (rm + rm + rm) + rm ≤ (4 * rm); omega) dd_Rw_makeRows_23 (fun w23 H hP hD hS => ?_)
  have hP : va_P D vwCl [(o, .inr (6, [.int an, .ref w2, .ref w9, .ref w16, x3])), (w2, .inl (cJ, rm, .inr (.inl (fun _ => 0)))), (w9, .inl (cI, rm, .inl (fun _ => 0))), (w16, .inl (cJ, rm, .inr (.inl (fun _ => 0)))), (w23, .inl (cI, rm, .inl (fun _ => 0)))] H := hP
  have hD : va_D A [(o, .inr (6, [.int an, .ref w2, .ref w9, .ref w16, x3])), (w2, .inl (cJ, rm, .inr (.inl (fun _ => 0)))), (w9, .inl (cI, rm, .inl (fun _ => 0))), (w16, .inl (cJ, rm, .inr (.inl (fun _ => 0)))), (w23, .inl (cI, rm, .inl (fun _ => 0)))] := hD
  refine kx_bud (cells := 1 + 1 + 1 + 1) (slots := rm + rm + rm + rm) ?_ (by omega) (by omega)
  refine va_put (D := D) (ci := 6) (v := .ref w23) (ty := (.array .int)) (C := rr_Rw) (T := tt_Rw) (N := 5) hx hb hts hin6 ft_Rw ft_Rw_ok nn_Rw hown hK hP hD hS 0 kg_5_0 rfl 4 (by decide) lk6 (fun _ h9 => h9) rfl (by decide +kernel) rfl rfl (Nat.le_of_ble_eq_true rfl) dd_Rw_makeRows_25 (fun H locs hP hD hS => ?_)
  have hP : va_P D vwCl [(o, .inr (6, [.int an, .ref w2, .ref w9, .ref w16, .ref w23])), (w2, .inl (cJ, rm, .inr (.inl (fun _ => 0)))), (w9, .inl (cI, rm, .inl (fun _ => 0))), (w16, .inl (cJ, rm, .inr (.inl (fun _ => 0)))), (w23, .inl (cI, rm, .inl (fun _ => 0)))] H := kx_cP kz_5_0 hP
  have hD : va_D A [(o, .inr (6, [.int an, .ref w2, .ref w9, .ref w16, .ref w23])), (w2, .inl (cJ, rm, .inr (.inl (fun _ => 0)))), (w9, .inl (cI, rm, .inl (fun _ => 0))), (w16, .inl (cJ, rm, .inr (.inl (fun _ => 0)))), (w23, .inl (cI, rm, .inl (fun _ => 0)))] := kx_cD kz_5_0 hD
  rw [hQ]
  refine kx_widen (k := 4) (n := 4 * rm) (by omega) (by omega) ?_
  exact kx_vret hx hb hr hlocks hK hN hS dd_Rw_makeRows_28 (w2, w9, w16, w23) hP hD trivial

theorem dd_Md_makeRows_0 : decode bb_Md_makeRows 0 = .ok (.aload_n 0, 1) := by decide +kernel
theorem dd_Md_makeRows_1 : decode bb_Md_makeRows 1 = .ok (.iload_n 1, 1) := by decide +kernel
theorem dd_Md_makeRows_2 : decode bb_Md_makeRows 2 = .ok (.newarray .int, 2) := by decide +kernel
theorem dd_Md_makeRows_4 : decode bb_Md_makeRows 4 = .ok (.putfield 15, 3) := by decide +kernel
theorem dd_Md_makeRows_7 : decode bb_Md_makeRows 7 = .ok (.aload_n 0, 1) := by decide +kernel
theorem dd_Md_makeRows_8 : decode bb_Md_makeRows 8 = .ok (.iload_n 1, 1) := by decide +kernel
theorem dd_Md_makeRows_9 : decode bb_Md_makeRows 9 = .ok (.newarray .int, 2) := by decide +kernel
theorem dd_Md_makeRows_11 : decode bb_Md_makeRows 11 = .ok (.putfield 19, 3) := by decide +kernel
theorem dd_Md_makeRows_14 : decode bb_Md_makeRows 14 = .ok (.aload_n 0, 1) := by decide +kernel
theorem dd_Md_makeRows_15 : decode bb_Md_makeRows 15 = .ok (.iload_n 1, 1) := by decide +kernel
theorem dd_Md_makeRows_16 : decode bb_Md_makeRows 16 = .ok (.newarray .int, 2) := by decide +kernel
theorem dd_Md_makeRows_18 : decode bb_Md_makeRows 18 = .ok (.putfield 22, 3) := by decide +kernel
theorem dd_Md_makeRows_21 : decode bb_Md_makeRows 21 = .ok (.aload_n 0, 1) := by decide +kernel
theorem dd_Md_makeRows_22 : decode bb_Md_makeRows 22 = .ok (.iload_n 1, 1) := by decide +kernel
theorem dd_Md_makeRows_23 : decode bb_Md_makeRows 23 = .ok (.newarray .int, 2) := by decide +kernel
theorem dd_Md_makeRows_25 : decode bb_Md_makeRows 25 = .ok (.putfield 25, 3) := by decide +kernel
theorem dd_Md_makeRows_28 : decode bb_Md_makeRows 28 = .ok (.aload_n 0, 1) := by decide +kernel
theorem dd_Md_makeRows_29 : decode bb_Md_makeRows 29 = .ok (.iload_n 1, 1) := by decide +kernel
theorem dd_Md_makeRows_30 : decode bb_Md_makeRows 30 = .ok (.newarray .int, 2) := by decide +kernel
theorem dd_Md_makeRows_32 : decode bb_Md_makeRows 32 = .ok (.putfield 28, 3) := by decide +kernel
theorem dd_Md_makeRows_35 : decode bb_Md_makeRows 35 = .ok (.return_, 1) := by decide +kernel

set_option maxHeartbeats 4000000 in
set_option maxRecDepth 100000 in
theorem ct_Md_makeRows (l : Launch) (D : va_G) (cI cJ cZ : ClassId) (sz : Nat) (o : Nat) (mp : Nat) (ml : Nat) (mv : Int32) (md : Int64) (mo : Int64) (x0 : Value) (x1 : Value) (x2 : Value) (x3 : Value) (x4 : Value) (rm : Nat) (hrm : rm < 2 ^ 20) : kx_Mv l yy_Md_makeRows ww_Md_makeRows ({ frames := 0, cells := 5, slots := 5 * rm, locals := 0 }) D vwCl (kx_ty cI cJ cZ) [.ref o, .int (nI rm)] [(o, .inr (5, [.int (nI mp), .int (nI ml), .int mv, .long md, .long mo, x0, x1, x2, x3, x4]))] sz (fun (u : Nat × Nat × Nat × Nat × Nat) => True) (fun (u : Nat × Nat × Nat × Nat × Nat) => [(o, .inr (5, [.int (nI mp), .int (nI ml), .int mv, .long md, .long mo, .ref u.1, .ref u.2.1, .ref u.2.2.1, .ref u.2.2.2.1, .ref u.2.2.2.2])), (u.1, .inl (cI, rm, .inl (fun _ => 0))), (u.2.1, .inl (cI, rm, .inl (fun _ => 0))), (u.2.2.1, .inl (cI, rm, .inl (fun _ => 0))), (u.2.2.2.1, .inl (cI, rm, .inl (fun _ => 0))), (u.2.2.2.2, .inl (cI, rm, .inl (fun _ => 0)))]) 5 (5 * rm) := by
  refine kx_startv (by decide) rfl (Nat.le_of_ble_eq_true rfl) ?_
  intro p e s m below meth c A ls hx hb hr hml hts hown hlocks hin hP hK hN hD hA hS hl
  have hl : lv_has ls 2 [(0, .ref o), (1, .int (nI rm))] := hl
  have hown : s.vm.findClass rr_Md = some m.cls := hown
  have lk0 := hts _ (kx_m kw_99)
  have lk1 := hts _ (kx_m kw_355)
  have hin5 : ∀ w ∈ u_ws rr_Md tt_Md 10, w ∈ ww_Md_makeRows := fun w h => kx_m (kf_Md w h)
  have lk3 := hts _ (kx_m kw_357)
  have lk4 := hts _ (kx_m kw_359)
  have lk5 := hts _ (kx_m kw_361)
  have lk6 := hts _ (kx_m kw_363)
  obtain ⟨H, hH⟩ : ∃ H, H = s.heap := ⟨_, rfl⟩
  obtain ⟨locs, hlocs⟩ : ∃ z : List Loc, z = [] := ⟨_, rfl⟩
  have hP : va_P D vwCl [(o, .inr (5, [.int (nI mp), .int (nI ml), .int mv, .long md, .long mo, x0, x1, x2, x3, x4]))] H := by rw [hH]; exact hP
  have hS : va_S A s.heap H locs := by rw [hH, hlocs]; exact hS
  refine kx_gen hH hlocs ?_
  clear hH hlocs
  refine kx_nameQ (fun Q hQ => ?_)
  refine lv_aload_n hx hb dd_Md_makeRows_0 rfl (lv_at hl 0 rfl) ?_
  refine lv_iload_n hx hb dd_Md_makeRows_1 rfl (lv_at hl 1 rfl) ?_
  refine kx_newi (N := rm) hx hb lk0 hK hP hD hS hA (by omega) (by show 0 + 1 ≤ 5; omega) (by show 0 + rm ≤ (5 * rm); omega) dd_Md_makeRows_2 (fun w2 H hP hD hS => ?_)
  have hP : va_P D vwCl [(o, .inr (5, [.int (nI mp), .int (nI ml), .int mv, .long md, .long mo, x0, x1, x2, x3, x4])), (w2, .inl (cI, rm, .inl (fun _ => 0)))] H := hP
  have hD : va_D A [(o, .inr (5, [.int (nI mp), .int (nI ml), .int mv, .long md, .long mo, x0, x1, x2, x3, x4])), (w2, .inl (cI, rm, .inl (fun _ => 0)))] := hD
  refine kx_bud (cells := 1) (slots := rm) ?_ (by omega) (by omega)
  refine va_put (D := D) (ci := 5) (v := .ref w2) (ty := (.array .int)) (C := rr_Md) (T := tt_Md) (N := 10) hx hb hts hin5 ft_Md ft_Md_ok nn_Md hown hK hP hD hS 0 kg_2_0 rfl 5 (by decide) lk1 (fun _ h9 => h9) rfl (by decide +kernel) rfl rfl (Nat.le_of_ble_eq_true rfl) dd_Md_makeRows_4 (fun H locs hP hD hS => ?_)
  have hP : va_P D vwCl [(o, .inr (5, [.int (nI mp), .int (nI ml), .int mv, .long md, .long mo, .ref w2, x1, x2, x3, x4])), (w2, .inl (cI, rm, .inl (fun _ => 0)))] H := kx_cP kz_2_0 hP
  have hD : va_D A [(o, .inr (5, [.int (nI mp), .int (nI ml), .int mv, .long md, .long mo, .ref w2, x1, x2, x3, x4])), (w2, .inl (cI, rm, .inl (fun _ => 0)))] := kx_cD kz_2_0 hD
  refine lv_aload_n hx hb dd_Md_makeRows_7 rfl (lv_at hl 0 rfl) ?_
  refine lv_iload_n hx hb dd_Md_makeRows_8 rfl (lv_at hl 1 rfl) ?_
  refine kx_newi (N := rm) hx hb lk0 hK hP hD hS hA (by omega) (by show 1 + 1 ≤ 5; omega) (by show rm + rm ≤ (5 * rm); omega) dd_Md_makeRows_9 (fun w9 H hP hD hS => ?_)
  have hP : va_P D vwCl [(o, .inr (5, [.int (nI mp), .int (nI ml), .int mv, .long md, .long mo, .ref w2, x1, x2, x3, x4])), (w2, .inl (cI, rm, .inl (fun _ => 0))), (w9, .inl (cI, rm, .inl (fun _ => 0)))] H := hP
  have hD : va_D A [(o, .inr (5, [.int (nI mp), .int (nI ml), .int mv, .long md, .long mo, .ref w2, x1, x2, x3, x4])), (w2, .inl (cI, rm, .inl (fun _ => 0))), (w9, .inl (cI, rm, .inl (fun _ => 0)))] := hD
  refine kx_bud (cells := 1 + 1) (slots := rm + rm) ?_ (by omega) (by omega)
  refine va_put (D := D) (ci := 5) (v := .ref w9) (ty := (.array .int)) (C := rr_Md) (T := tt_Md) (N := 10) hx hb hts hin5 ft_Md ft_Md_ok nn_Md hown hK hP hD hS 0 kg_3_0 rfl 6 (by decide) lk3 (fun _ h9 => h9) rfl (by decide +kernel) rfl rfl (Nat.le_of_ble_eq_true rfl) dd_Md_makeRows_11 (fun H locs hP hD hS => ?_)
  have hP : va_P D vwCl [(o, .inr (5, [.int (nI mp), .int (nI ml), .int mv, .long md, .long mo, .ref w2, .ref w9, x2, x3, x4])), (w2, .inl (cI, rm, .inl (fun _ => 0))), (w9, .inl (cI, rm, .inl (fun _ => 0)))] H := kx_cP kz_3_0 hP
  have hD : va_D A [(o, .inr (5, [.int (nI mp), .int (nI ml), .int mv, .long md, .long mo, .ref w2, .ref w9, x2, x3, x4])), (w2, .inl (cI, rm, .inl (fun _ => 0))), (w9, .inl (cI, rm, .inl (fun _ => 0)))] := kx_cD kz_3_0 hD
  refine lv_aload_n hx hb dd_Md_makeRows_14 rfl (lv_at hl 0 rfl) ?_
  refine lv_iload_n hx hb dd_Md_makeRows_15 rfl (lv_at hl 1 rfl) ?_
  refine kx_newi (N := rm) hx hb lk0 hK hP hD hS hA (by omega) (by show (1 + 1) + 1 ≤ 5; omega) (by show (rm + rm) + rm ≤ (5 * rm); omega) dd_Md_makeRows_16 (fun w16 H hP hD hS => ?_)
  have hP : va_P D vwCl [(o, .inr (5, [.int (nI mp), .int (nI ml), .int mv, .long md, .long mo, .ref w2, .ref w9, x2, x3, x4])), (w2, .inl (cI, rm, .inl (fun _ => 0))), (w9, .inl (cI, rm, .inl (fun _ => 0))), (w16, .inl (cI, rm, .inl (fun _ => 0)))] H := hP
  have hD : va_D A [(o, .inr (5, [.int (nI mp), .int (nI ml), .int mv, .long md, .long mo, .ref w2, .ref w9, x2, x3, x4])), (w2, .inl (cI, rm, .inl (fun _ => 0))), (w9, .inl (cI, rm, .inl (fun _ => 0))), (w16, .inl (cI, rm, .inl (fun _ => 0)))] := hD
  refine kx_bud (cells := 1 + 1 + 1) (slots := rm + rm + rm) ?_ (by omega) (by omega)
  refine va_put (D := D) (ci := 5) (v := .ref w16) (ty := (.array .int)) (C := rr_Md) (T := tt_Md) (N := 10) hx hb hts hin5 ft_Md ft_Md_ok nn_Md hown hK hP hD hS 0 kg_4_0 rfl 7 (by decide) lk4 (fun _ h9 => h9) rfl (by decide +kernel) rfl rfl (Nat.le_of_ble_eq_true rfl) dd_Md_makeRows_18 (fun H locs hP hD hS => ?_)
  have hP : va_P D vwCl [(o, .inr (5, [.int (nI mp), .int (nI ml), .int mv, .long md, .long mo, .ref w2, .ref w9, .ref w16, x3, x4])), (w2, .inl (cI, rm, .inl (fun _ => 0))), (w9, .inl (cI, rm, .inl (fun _ => 0))), (w16, .inl (cI, rm, .inl (fun _ => 0)))] H := kx_cP kz_4_0 hP
  have hD : va_D A [(o, .inr (5, [.int (nI mp), .int (nI ml), .int mv, .long md, .long mo, .ref w2, .ref w9, .ref w16, x3, x4])), (w2, .inl (cI, rm, .inl (fun _ => 0))), (w9, .inl (cI, rm, .inl (fun _ => 0))), (w16, .inl (cI, rm, .inl (fun _ => 0)))] := kx_cD kz_4_0 hD
  refine lv_aload_n hx hb dd_Md_makeRows_21 rfl (lv_at hl 0 rfl) ?_
  refine lv_iload_n hx hb dd_Md_makeRows_22 rfl (lv_at hl 1 rfl) ?_
  refine kx_newi (N := rm) hx hb lk0 hK hP hD hS hA (by omega) (by show (1 + 1 + 1) + 1 ≤ 5; omega) (by show (rm + rm + rm) + rm ≤ (5 * rm); omega) dd_Md_makeRows_23 (fun w23 H hP hD hS => ?_)
  have hP : va_P D vwCl [(o, .inr (5, [.int (nI mp), .int (nI ml), .int mv, .long md, .long mo, .ref w2, .ref w9, .ref w16, x3, x4])), (w2, .inl (cI, rm, .inl (fun _ => 0))), (w9, .inl (cI, rm, .inl (fun _ => 0))), (w16, .inl (cI, rm, .inl (fun _ => 0))), (w23, .inl (cI, rm, .inl (fun _ => 0)))] H := hP
  have hD : va_D A [(o, .inr (5, [.int (nI mp), .int (nI ml), .int mv, .long md, .long mo, .ref w2, .ref w9, .ref w16, x3, x4])), (w2, .inl (cI, rm, .inl (fun _ => 0))), (w9, .inl (cI, rm, .inl (fun _ => 0))), (w16, .inl (cI, rm, .inl (fun _ => 0))), (w23, .inl (cI, rm, .inl (fun _ => 0)))] := hD
  refine kx_bud (cells := 1 + 1 + 1 + 1) (slots := rm + rm + rm + rm) ?_ (by omega) (by omega)
  refine va_put (D := D) (ci := 5) (v := .ref w23) (ty := (.array .int)) (C := rr_Md) (T := tt_Md) (N := 10) hx hb hts hin5 ft_Md ft_Md_ok nn_Md hown hK hP hD hS 0 kg_5_0 rfl 8 (by decide) lk5 (fun _ h9 => h9) rfl (by decide +kernel) rfl rfl (Nat.le_of_ble_eq_true rfl) dd_Md_makeRows_25 (fun H locs hP hD hS => ?_)
  have hP : va_P D vwCl [(o, .inr (5, [.int (nI mp), .int (nI ml), .int mv, .long md, .long mo, .ref w2, .ref w9, .ref w16, .ref w23, x4])), (w2, .inl (cI, rm, .inl (fun _ => 0))), (w9, .inl (cI, rm, .inl (fun _ => 0))), (w16, .inl (cI, rm, .inl (fun _ => 0))), (w23, .inl (cI, rm, .inl (fun _ => 0)))] H := kx_cP kz_5_0 hP
  have hD : va_D A [(o, .inr (5, [.int (nI mp), .int (nI ml), .int mv, .long md, .long mo, .ref w2, .ref w9, .ref w16, .ref w23, x4])), (w2, .inl (cI, rm, .inl (fun _ => 0))), (w9, .inl (cI, rm, .inl (fun _ => 0))), (w16, .inl (cI, rm, .inl (fun _ => 0))), (w23, .inl (cI, rm, .inl (fun _ => 0)))] := kx_cD kz_5_0 hD
  refine lv_aload_n hx hb dd_Md_makeRows_28 rfl (lv_at hl 0 rfl) ?_
  refine lv_iload_n hx hb dd_Md_makeRows_29 rfl (lv_at hl 1 rfl) ?_
  refine kx_newi (N := rm) hx hb lk0 hK hP hD hS hA (by omega) (by show (1 + 1 + 1 + 1) + 1 ≤ 5; omega) (by show (rm + rm + rm + rm) + rm ≤ (5 * rm); omega) dd_Md_makeRows_30 (fun w30 H hP hD hS => ?_)
  have hP : va_P D vwCl [(o, .inr (5, [.int (nI mp), .int (nI ml), .int mv, .long md, .long mo, .ref w2, .ref w9, .ref w16, .ref w23, x4])), (w2, .inl (cI, rm, .inl (fun _ => 0))), (w9, .inl (cI, rm, .inl (fun _ => 0))), (w16, .inl (cI, rm, .inl (fun _ => 0))), (w23, .inl (cI, rm, .inl (fun _ => 0))), (w30, .inl (cI, rm, .inl (fun _ => 0)))] H := hP
  have hD : va_D A [(o, .inr (5, [.int (nI mp), .int (nI ml), .int mv, .long md, .long mo, .ref w2, .ref w9, .ref w16, .ref w23, x4])), (w2, .inl (cI, rm, .inl (fun _ => 0))), (w9, .inl (cI, rm, .inl (fun _ => 0))), (w16, .inl (cI, rm, .inl (fun _ => 0))), (w23, .inl (cI, rm, .inl (fun _ => 0))), (w30, .inl (cI, rm, .inl (fun _ => 0)))] := hD
  refine kx_bud (cells := 1 + 1 + 1 + 1 + 1) (slots := rm + rm + rm + rm + rm) ?_ (by omega) (by omega)
  refine va_put (D := D) (ci := 5) (v := .ref w30) (ty := (.array .int)) (C := rr_Md) (T := tt_Md) (N := 10) hx hb hts hin5 ft_Md ft_Md_ok nn_Md hown hK hP hD hS 0 kg_6_0 rfl 9 (by decide) lk6 (fun _ h9 => h9) rfl (by decide +kernel) rfl rfl (Nat.le_of_ble_eq_true rfl) dd_Md_makeRows_32 (fun H locs hP hD hS => ?_)
  have hP : va_P D vwCl [(o, .inr (5, [.int (nI mp), .int (nI ml), .int mv, .long md, .long mo, .ref w2, .ref w9, .ref w16, .ref w23, .ref w30])), (w2, .inl (cI, rm, .inl (fun _ => 0))), (w9, .inl (cI, rm, .inl (fun _ => 0))), (w16, .inl (cI, rm, .inl (fun _ => 0))), (w23, .inl (cI, rm, .inl (fun _ => 0))), (w30, .inl (cI, rm, .inl (fun _ => 0)))] H := kx_cP kz_6_0 hP
  have hD : va_D A [(o, .inr (5, [.int (nI mp), .int (nI ml), .int mv, .long md, .long mo, .ref w2, .ref w9, .ref w16, .ref w23, .ref w30])), (w2, .inl (cI, rm, .inl (fun _ => 0))), (w9, .inl (cI, rm, .inl (fun _ => 0))), (w16, .inl (cI, rm, .inl (fun _ => 0))), (w23, .inl (cI, rm, .inl (fun _ => 0))), (w30, .inl (cI, rm, .inl (fun _ => 0)))] := kx_cD kz_6_0 hD
  rw [hQ]
  refine kx_widen (k := 5) (n := 5 * rm) (by omega) (by omega) ?_
  exact kx_vret hx hb hr hlocks hK hN hS dd_Md_makeRows_35 (w2, w9, w16, w23, w30) hP hD trivial
