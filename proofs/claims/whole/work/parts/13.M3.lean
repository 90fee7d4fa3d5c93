/-! one line more behind a break: goOn -/
def pl_B (S : Nat → Int64) (si : Nat → Int32) (ad be : Int64) (mw : Int32) : Int32 := pm_lb (pm_ex S si ad be mw) (pm_pl S si) (pm_fa S si) (pm_le S si)
def pl_C (S : Nat → Int64) (si : Nat → Int32) (ad be : Int64) (mw : Int32) : Nat := pm_lc (pm_ex S si ad be mw) (pm_pl S si) (pm_fa S si) (pm_le S si)
def pl_O (S : Nat → Int64) (si : Nat → Int32) (ad be : Int64) (mw : Int32) : Int64 := pm_lo (pm_ex S si ad be mw) (pm_le S si)
theorem pm_c1_le (b : Int32) : pm_c1 b ≤ 3 := by unfold pm_c1; split <;> (try split) <;> omega
theorem pm_c2_le (b : Int32) : pm_c2 b ≤ 3 := by unfold pm_c2; split <;> omega
theorem pm_lc_le (ex pl fa le : Int64) : pm_lc ex pl fa le ≤ 3 := by
  unfold pm_lc
  split
  · split
    · exact pm_c2_le _
    · omega
  · exact pm_c1_le _
abbrev pm_ok (ru : Nat → Int32) (ps : Nat) (lb : Int32) (lo : Int64) : Prop := ps = 3 ∨ (lo = 0 ∧ ¬ ru (ps - 1) < lb)
def pt_pv (iz : Nat → Int32) (ou : Nat → Int64) (ba : Nat → Int32) (de : Nat → Int64) (a c : Nat) : Option (Int64 × Int32 × Int64) := if iz (a + c) = 0 then none else some (ou (a + c), ba (a + c), de (a + c))
def pt_go (ps lc ab i : Nat) (lo : Int64) (cost : Nat → Int64) (prev : Nat → Option (Int64 × Int32 × Int64)) (R : Nat → Option pt_C) : Nat → Nat → Option pt_C
  | 0 => R
  | k + 1 => match prev k with
    | none => pt_go ps lc ab i lo cost prev R k
    | some x => fun c => if c = lc then pt_kp ps (pt_go ps lc ab i lo cost prev R k c) (x.1 + lo, x.2.1 + nI ab, x.2.2 + cost k, nI (4 * i + k + 1)) else pt_go ps lc ab i lo cost prev R k c
theorem pt_go_n {ps lc ab i : Nat} {lo : Int64} {cost : Nat → Int64} {prev : Nat → Option (Int64 × Int32 × Int64)} {R : Nat → Option pt_C} {k : Nat} (h : prev k = none) : pt_go ps lc ab i lo cost prev R (k + 1) = pt_go ps lc ab i lo cost prev R k := by
  simp only [pt_go, h]
theorem pt_go_s {ps lc ab i : Nat} {lo : Int64} {cost : Nat → Int64} {prev : Nat → Option (Int64 × Int32 × Int64)} {R : Nat → Option pt_C} {k : Nat} {x : Int64 × Int32 × Int64} (h : prev k = some x) (c : Nat) : pt_go ps lc ab i lo cost prev R (k + 1) c = if c = lc then pt_kp ps (pt_go ps lc ab i lo cost prev R k c) (x.1 + lo, x.2.1 + nI ab, x.2.2 + cost k, nI (4 * i + k + 1)) else pt_go ps lc ab i lo cost prev R k c := by
  simp only [pt_go, h]
theorem pt_go_0 {ps lc ab i : Nat} {lo : Int64} {cost : Nat → Int64} {prev : Nat → Option (Int64 × Int32 × Int64)} {R : Nat → Option pt_C} (h : ∀ k, k < 4 → prev k = none) : pt_go ps lc ab i lo cost prev R 4 = R := by
  rw [pt_go_n (h 3 (by decide)), pt_go_n (h 2 (by decide)), pt_go_n (h 1 (by decide)), pt_go_n (h 0 (by decide))]; rfl
theorem kg_17_0 {c0 c1 c2 c3 c4 c5 c6 c7 c8 c9 c10 c11 c12 c13 c14 c15 c16 : Nat × va_E} : ([c0, c1, c2, c3, c4, c5, c6, c7, c8, c9, c10, c11, c12, c13, c14, c15, c16] : va_W)[0]? = some c0 := rfl
theorem kg_17_10 {c0 c1 c2 c3 c4 c5 c6 c7 c8 c9 c10 c11 c12 c13 c14 c15 c16 : Nat × va_E} : ([c0, c1, c2, c3, c4, c5, c6, c7, c8, c9, c10, c11, c12, c13, c14, c15, c16] : va_W)[10]? = some c10 := rfl
theorem kg_17_9 {c0 c1 c2 c3 c4 c5 c6 c7 c8 c9 c10 c11 c12 c13 c14 c15 c16 : Nat × va_E} : ([c0, c1, c2, c3, c4, c5, c6, c7, c8, c9, c10, c11, c12, c13, c14, c15, c16] : va_W)[9]? = some c9 := rfl
theorem kt_17_0_1_3_4_5_7_8_15_16 {c0 c1 c2 c3 c4 c5 c6 c7 c8 c9 c10 c11 c12 c13 c14 c15 c16 : Nat × va_E} : ([0, 1, 3, 4, 5, 7, 8, 15, 16] : List Nat).filterMap (fun i => ([c0, c1, c2, c3, c4, c5, c6, c7, c8, c9, c10, c11, c12, c13, c14, c15, c16] : va_W)[i]?) = ([c0, c1, c3, c4, c5, c7, c8, c15, c16] : va_W) := rfl
theorem ks_17_0_1_3_4_5_7_8_15_16 {c0 c1 c2 c3 c4 c5 c6 c7 c8 c9 c10 c11 c12 c13 c14 c15 c16 : Nat × va_E} : ([0, 1, 3, 4, 5, 7, 8, 15, 16] : List Nat).map (fun i => ([c0, c1, c2, c3, c4, c5, c6, c7, c8, c9, c10, c11, c12, c13, c14, c15, c16] : va_W)[i]?) = ([c0, c1, c3, c4, c5, c7, c8, c15, c16] : va_W).map some := rfl
theorem ks_17_2_6_9_10_11_12_13_14 {c0 c1 c2 c3 c4 c5 c6 c7 c8 c9 c10 c11 c12 c13 c14 c15 c16 : Nat × va_E} : ([2, 6, 9, 10, 11, 12, 13, 14] : List Nat).map (fun i => ([c0, c1, c2, c3, c4, c5, c6, c7, c8, c9, c10, c11, c12, c13, c14, c15, c16] : va_W)[i]?) = ([c2, c6, c9, c10, c11, c12, c13, c14] : va_W).map some := rfl
theorem kt_17_8_9_0_10_11_12_1_13_14_2_3_4_5_6_7_15_16 {c0 c1 c2 c3 c4 c5 c6 c7 c8 c9 c10 c11 c12 c13 c14 c15 c16 : Nat × va_E} : ([8, 9, 0, 10, 11, 12, 1, 13, 14, 2, 3, 4, 5, 6, 7, 15, 16] : List Nat).filterMap (fun i => ([c0, c1, c2, c3, c4, c5, c6, c7, c8, c9, c10, c11, c12, c13, c14, c15, c16] : va_W)[i]?) = ([c8, c9, c0, c10, c11, c12, c1, c13, c14, c2, c3, c4, c5, c6, c7, c15, c16] : va_W) := rfl
theorem ks_17_8_9_0_10_11_12_1_13_14_2_3_4_5_6_7_15_16 {c0 c1 c2 c3 c4 c5 c6 c7 c8 c9 c10 c11 c12 c13 c14 c15 c16 : Nat × va_E} : ([8, 9, 0, 10, 11, 12, 1, 13, 14, 2, 3, 4, 5, 6, 7, 15, 16] : List Nat).map (fun i => ([c0, c1, c2, c3, c4, c5, c6, c7, c8, c9, c10, c11, c12, c13, c14, c15, c16] : va_W)[i]?) = ([c8, c9, c0, c10, c11, c12, c1, c13, c14, c2, c3, c4, c5, c6, c7, c15, c16] : va_W).map some := rfl
theorem kt_17_0_6 {c0 c1 c2 c3 c4 c5 c6 c7 c8 c9 c10 c11 c12 c13 c14 c15 c16 : Nat × va_E} : ([0, 6] : List Nat).filterMap (fun i => ([c0, c1, c2, c3, c4, c5, c6, c7, c8, c9, c10, c11, c12, c13, c14, c15, c16] : va_W)[i]?) = ([c0, c6] : va_W) := rfl
theorem ks_17_0_6 {c0 c1 c2 c3 c4 c5 c6 c7 c8 c9 c10 c11 c12 c13 c14 c15 c16 : Nat × va_E} : ([0, 6] : List Nat).map (fun i => ([c0, c1, c2, c3, c4, c5, c6, c7, c8, c9, c10, c11, c12, c13, c14, c15, c16] : va_W)[i]?) = ([c0, c6] : va_W).map some := rfl
theorem ks_17_1_2_3_4_5_7_8_9_10_11_12_13_14_15_16 {c0 c1 c2 c3 c4 c5 c6 c7 c8 c9 c10 c11 c12 c13 c14 c15 c16 : Nat × va_E} : ([1, 2, 3, 4, 5, 7, 8, 9, 10, 11, 12, 13, 14, 15, 16] : List Nat).map (fun i => ([c0, c1, c2, c3, c4, c5, c6, c7, c8, c9, c10, c11, c12, c13, c14, c15, c16] : va_W)[i]?) = ([c1, c2, c3, c4, c5, c7, c8, c9, c10, c11, c12, c13, c14, c15, c16] : va_W).map some := rfl
theorem kt_17_15_0_1_2_3_4_16_5_6_7_8_9_10_11_12_13_14 {c0 c1 c2 c3 c4 c5 c6 c7 c8 c9 c10 c11 c12 c13 c14 c15 c16 : Nat × va_E} : ([15, 0, 1, 2, 3, 4, 16, 5, 6, 7, 8, 9, 10, 11, 12, 13, 14] : List Nat).filterMap (fun i => ([c0, c1, c2, c3, c4, c5, c6, c7, c8, c9, c10, c11, c12, c13, c14, c15, c16] : va_W)[i]?) = ([c15, c0, c1, c2, c3, c4, c16, c5, c6, c7, c8, c9, c10, c11, c12, c13, c14] : va_W) := rfl
theorem ks_17_15_0_1_2_3_4_16_5_6_7_8_9_10_11_12_13_14 {c0 c1 c2 c3 c4 c5 c6 c7 c8 c9 c10 c11 c12 c13 c14 c15 c16 : Nat × va_E} : ([15, 0, 1, 2, 3, 4, 16, 5, 6, 7, 8, 9, 10, 11, 12, 13, 14] : List Nat).map (fun i => ([c0, c1, c2, c3, c4, c5, c6, c7, c8, c9, c10, c11, c12, c13, c14, c15, c16] : va_W)[i]?) = ([c15, c0, c1, c2, c3, c4, c16, c5, c6, c7, c8, c9, c10, c11, c12, c13, c14] : va_W).map some := rfl
theorem kg_17_11 {c0 c1 c2 c3 c4 c5 c6 c7 c8 c9 c10 c11 c12 c13 c14 c15 c16 : Nat × va_E} : ([c0, c1, c2, c3, c4, c5, c6, c7, c8, c9, c10, c11, c12, c13, c14, c15, c16] : va_W)[11]? = some c11 := rfl
theorem kg_17_12 {c0 c1 c2 c3 c4 c5 c6 c7 c8 c9 c10 c11 c12 c13 c14 c15 c16 : Nat × va_E} : ([c0, c1, c2, c3, c4, c5, c6, c7, c8, c9, c10, c11, c12, c13, c14, c15, c16] : va_W)[12]? = some c12 := rfl
theorem kg_17_13 {c0 c1 c2 c3 c4 c5 c6 c7 c8 c9 c10 c11 c12 c13 c14 c15 c16 : Nat × va_E} : ([c0, c1, c2, c3, c4, c5, c6, c7, c8, c9, c10, c11, c12, c13, c14, c15, c16] : va_W)[13]? = some c13 := rfl
theorem kt_17_0_1_2_4_6 {c0 c1 c2 c3 c4 c5 c6 c7 c8 c9 c10 c11 c12 c13 c14 c15 c16 : Nat × va_E} : ([0, 1, 2, 4, 6] : List Nat).filterMap (fun i => ([c0, c1, c2, c3, c4, c5, c6, c7, c8, c9, c10, c11, c12, c13, c14, c15, c16] : va_W)[i]?) = ([c0, c1, c2, c4, c6] : va_W) := rfl
theorem ks_17_0_1_2_4_6 {c0 c1 c2 c3 c4 c5 c6 c7 c8 c9 c10 c11 c12 c13 c14 c15 c16 : Nat × va_E} : ([0, 1, 2, 4, 6] : List Nat).map (fun i => ([c0, c1, c2, c3, c4, c5, c6, c7, c8, c9, c10, c11, c12, c13, c14, c15, c16] : va_W)[i]?) = ([c0, c1, c2, c4, c6] : va_W).map some := rfl
theorem ks_17_3_5_7_8_9_10_11_12_13_14_15_16 {c0 c1 c2 c3 c4 c5 c6 c7 c8 c9 c10 c11 c12 c13 c14 c15 c16 : Nat × va_E} : ([3, 5, 7, 8, 9, 10, 11, 12, 13, 14, 15, 16] : List Nat).map (fun i => ([c0, c1, c2, c3, c4, c5, c6, c7, c8, c9, c10, c11, c12, c13, c14, c15, c16] : va_W)[i]?) = ([c3, c5, c7, c8, c9, c10, c11, c12, c13, c14, c15, c16] : va_W).map some := rfl
theorem kt_17_12_13_14_0_15_1_16_2_3_4_5_6_7_8_9_10_11 {c0 c1 c2 c3 c4 c5 c6 c7 c8 c9 c10 c11 c12 c13 c14 c15 c16 : Nat × va_E} : ([12, 13, 14, 0, 15, 1, 16, 2, 3, 4, 5, 6, 7, 8, 9, 10, 11] : List Nat).filterMap (fun i => ([c0, c1, c2, c3, c4, c5, c6, c7, c8, c9, c10, c11, c12, c13, c14, c15, c16] : va_W)[i]?) = ([c12, c13, c14, c0, c15, c1, c16, c2, c3, c4, c5, c6, c7, c8, c9, c10, c11] : va_W) := rfl
theorem ks_17_12_13_14_0_15_1_16_2_3_4_5_6_7_8_9_10_11 {c0 c1 c2 c3 c4 c5 c6 c7 c8 c9 c10 c11 c12 c13 c14 c15 c16 : Nat × va_E} : ([12, 13, 14, 0, 15, 1, 16, 2, 3, 4, 5, 6, 7, 8, 9, 10, 11] : List Nat).map (fun i => ([c0, c1, c2, c3, c4, c5, c6, c7, c8, c9, c10, c11, c12, c13, c14, c15, c16] : va_W)[i]?) = ([c12, c13, c14, c0, c15, c1, c16, c2, c3, c4, c5, c6, c7, c8, c9, c10, c11] : va_W).map some := rfl
theorem kt_17_0_10_11_12_13_14 {c0 c1 c2 c3 c4 c5 c6 c7 c8 c9 c10 c11 c12 c13 c14 c15 c16 : Nat × va_E} : ([0, 10, 11, 12, 13, 14] : List Nat).filterMap (fun i => ([c0, c1, c2, c3, c4, c5, c6, c7, c8, c9, c10, c11, c12, c13, c14, c15, c16] : va_W)[i]?) = ([c0, c10, c11, c12, c13, c14] : va_W) := rfl
theorem ks_17_0_10_11_12_13_14 {c0 c1 c2 c3 c4 c5 c6 c7 c8 c9 c10 c11 c12 c13 c14 c15 c16 : Nat × va_E} : ([0, 10, 11, 12, 13, 14] : List Nat).map (fun i => ([c0, c1, c2, c3, c4, c5, c6, c7, c8, c9, c10, c11, c12, c13, c14, c15, c16] : va_W)[i]?) = ([c0, c10, c11, c12, c13, c14] : va_W).map some := rfl
theorem ks_17_1_2_3_4_5_6_7_8_9_15_16 {c0 c1 c2 c3 c4 c5 c6 c7 c8 c9 c10 c11 c12 c13 c14 c15 c16 : Nat × va_E} : ([1, 2, 3, 4, 5, 6, 7, 8, 9, 15, 16] : List Nat).map (fun i => ([c0, c1, c2, c3, c4, c5, c6, c7, c8, c9, c10, c11, c12, c13, c14, c15, c16] : va_W)[i]?) = ([c1, c2, c3, c4, c5, c6, c7, c8, c9, c15, c16] : va_W).map some := rfl
theorem kt_17_11_0_1_2_3_4_5_6_7_8_12_13_14_15_16_9_10 {c0 c1 c2 c3 c4 c5 c6 c7 c8 c9 c10 c11 c12 c13 c14 c15 c16 : Nat × va_E} : ([11, 0, 1, 2, 3, 4, 5, 6, 7, 8, 12, 13, 14, 15, 16, 9, 10] : List Nat).filterMap (fun i => ([c0, c1, c2, c3, c4, c5, c6, c7, c8, c9, c10, c11, c12, c13, c14, c15, c16] : va_W)[i]?) = ([c11, c0, c1, c2, c3, c4, c5, c6, c7, c8, c12, c13, c14, c15, c16, c9, c10] : va_W) := rfl
theorem ks_17_11_0_1_2_3_4_5_6_7_8_12_13_14_15_16_9_10 {c0 c1 c2 c3 c4 c5 c6 c7 c8 c9 c10 c11 c12 c13 c14 c15 c16 : Nat × va_E} : ([11, 0, 1, 2, 3, 4, 5, 6, 7, 8, 12, 13, 14, 15, 16, 9, 10] : List Nat).map (fun i => ([c0, c1, c2, c3, c4, c5, c6, c7, c8, c9, c10, c11, c12, c13, c14, c15, c16] : va_W)[i]?) = ([c11, c0, c1, c2, c3, c4, c5, c6, c7, c8, c12, c13, c14, c15, c16, c9, c10] : va_W).map some := rfl
theorem kw_31 : Cond.selects rr_M yy_M_weigh yy_M_weigh ∈ kx_T := kx_in (i := 31) (by decide +kernel) (by decide +kernel)
theorem kw_34 : Cond.selects rr_M yy_M_fits yy_M_fits ∈ kx_T := kx_in (i := 34) (by decide +kernel) (by decide +kernel)
theorem kw_35 : Cond.selects rr_M yy_M_above yy_M_above ∈ kx_T := kx_in (i := 35) (by decide +kernel) (by decide +kernel)
theorem kw_36 : Cond.selects rr_M yy_M_cost yy_M_cost ∈ kx_T := kx_in (i := 36) (by decide +kernel) (by decide +kernel)
theorem kw_38 : Cond.selects rr_M yy_M_keep yy_M_keep ∈ kx_T := kx_in (i := 38) (by decide +kernel) (by decide +kernel)
theorem kw_811 : Cond.fieldLink rr_M (38) "LineDeskModel" "item" "[I" ∈ kx_T := kx_in (i := 811) (by decide +kernel) (by decide +kernel)
theorem kw_995 : Cond.methodLink rr_M (142) yy_M_weigh ∈ kx_T := kx_in (i := 995) (by decide +kernel) (by decide +kernel)
theorem kw_997 : Cond.instanceMethod yy_M_weigh ∈ kx_T := kx_in (i := 997) (by decide +kernel) (by decide +kernel)
set_option maxRecDepth 100000 in
theorem kw_998 : Cond.code yy_M_weigh bb_M_weigh 16 none ∈ kx_T := kx_in (i := 998) rfl (by decide +kernel)
theorem kw_1014 : Cond.methodLink rr_M (146) yy_M_fits ∈ kx_T := kx_in (i := 1014) (by decide +kernel) (by decide +kernel)
theorem kw_1016 : Cond.instanceMethod yy_M_fits ∈ kx_T := kx_in (i := 1016) (by decide +kernel) (by decide +kernel)
set_option maxRecDepth 100000 in
theorem kw_1017 : Cond.code yy_M_fits bb_M_fits 1 (some .boolean) ∈ kx_T := kx_in (i := 1017) rfl (by decide +kernel)
theorem kw_1018 : Cond.methodLink rr_M (150) yy_M_above ∈ kx_T := kx_in (i := 1018) (by decide +kernel) (by decide +kernel)
theorem kw_1020 : Cond.instanceMethod yy_M_above ∈ kx_T := kx_in (i := 1020) (by decide +kernel) (by decide +kernel)
set_option maxRecDepth 100000 in
theorem kw_1021 : Cond.code yy_M_above bb_M_above 1 (some .int) ∈ kx_T := kx_in (i := 1021) rfl (by decide +kernel)
theorem kw_1022 : Cond.methodLink rr_M (154) yy_M_cost ∈ kx_T := kx_in (i := 1022) (by decide +kernel) (by decide +kernel)
theorem kw_1024 : Cond.instanceMethod yy_M_cost ∈ kx_T := kx_in (i := 1024) (by decide +kernel) (by decide +kernel)
set_option maxRecDepth 100000 in
theorem kw_1025 : Cond.code yy_M_cost bb_M_cost 8 (some .long) ∈ kx_T := kx_in (i := 1025) rfl (by decide +kernel)
theorem kw_1031 : Cond.methodLink rr_M (158) yy_M_keep ∈ kx_T := kx_in (i := 1031) (by decide +kernel) (by decide +kernel)
theorem kw_1033 : Cond.instanceMethod yy_M_keep ∈ kx_T := kx_in (i := 1033) (by decide +kernel) (by decide +kernel)
set_option maxRecDepth 100000 in
theorem kw_1034 : Cond.code yy_M_keep bb_M_keep 14 none ∈ kx_T := kx_in (i := 1034) rfl (by decide +kernel)
theorem dd_M_goOn_0 : decode bb_M_goOn 0 = .ok (.sipush (1608), 3) := by decide +kernel
theorem dd_M_goOn_3 : decode bb_M_goOn 3 = .ok (.iload_n 3, 1) := by decide +kernel
theorem dd_M_goOn_4 : decode bb_M_goOn 4 = .ok (.iconst 1, 1) := by decide +kernel
theorem dd_M_goOn_5 : decode bb_M_goOn 5 = .ok (.iadd, 1) := by decide +kernel
theorem dd_M_goOn_6 : decode bb_M_goOn 6 = .ok (.iconst 1, 1) := by decide +kernel
theorem dd_M_goOn_7 : decode bb_M_goOn 7 = .ok (.iand, 1) := by decide +kernel
theorem dd_M_goOn_8 : decode bb_M_goOn 8 = .ok (.imul, 1) := by decide +kernel
theorem dd_M_goOn_9 : decode bb_M_goOn 9 = .ok (.iconst 4, 1) := by decide +kernel
theorem dd_M_goOn_10 : decode bb_M_goOn 10 = .ok (.iload_n 1, 1) := by decide +kernel
theorem dd_M_goOn_11 : decode bb_M_goOn 11 = .ok (.imul, 1) := by decide +kernel
theorem dd_M_goOn_12 : decode bb_M_goOn 12 = .ok (.iadd, 1) := by decide +kernel
theorem dd_M_goOn_13 : decode bb_M_goOn 13 = .ok (.istore 4, 2) := by decide +kernel
theorem dd_M_goOn_15 : decode bb_M_goOn 15 = .ok (.aload_n 0, 1) := by decide +kernel
theorem dd_M_goOn_16 : decode bb_M_goOn 16 = .ok (.getfield 41, 3) := by decide +kernel
theorem dd_M_goOn_19 : decode bb_M_goOn 19 = .ok (.iload 4, 2) := by decide +kernel
theorem dd_M_goOn_21 : decode bb_M_goOn 21 = .ok (.baload, 1) := by decide +kernel
theorem dd_M_goOn_22 : decode bb_M_goOn 22 = .ok (.ifCond .ne (40), 3) := by decide +kernel
theorem dd_M_goOn_25 : decode bb_M_goOn 25 = .ok (.aload_n 0, 1) := by decide +kernel
theorem dd_M_goOn_26 : decode bb_M_goOn 26 = .ok (.getfield 41, 3) := by decide +kernel
theorem dd_M_goOn_29 : decode bb_M_goOn 29 = .ok (.iload 4, 2) := by decide +kernel
theorem dd_M_goOn_31 : decode bb_M_goOn 31 = .ok (.iconst 1, 1) := by decide +kernel
theorem dd_M_goOn_32 : decode bb_M_goOn 32 = .ok (.iadd, 1) := by decide +kernel
theorem dd_M_goOn_33 : decode bb_M_goOn 33 = .ok (.baload, 1) := by decide +kernel
theorem dd_M_goOn_34 : decode bb_M_goOn 34 = .ok (.ifCond .ne (28), 3) := by decide +kernel
theorem dd_M_goOn_37 : decode bb_M_goOn 37 = .ok (.aload_n 0, 1) := by decide +kernel
theorem dd_M_goOn_38 : decode bb_M_goOn 38 = .ok (.getfield 41, 3) := by decide +kernel
theorem dd_M_goOn_41 : decode bb_M_goOn 41 = .ok (.iload 4, 2) := by decide +kernel
theorem dd_M_goOn_43 : decode bb_M_goOn 43 = .ok (.iconst 2, 1) := by decide +kernel
theorem dd_M_goOn_44 : decode bb_M_goOn 44 = .ok (.iadd, 1) := by decide +kernel
theorem dd_M_goOn_45 : decode bb_M_goOn 45 = .ok (.baload, 1) := by decide +kernel
theorem dd_M_goOn_46 : decode bb_M_goOn 46 = .ok (.ifCond .ne (16), 3) := by decide +kernel
theorem dd_M_goOn_49 : decode bb_M_goOn 49 = .ok (.aload_n 0, 1) := by decide +kernel
theorem dd_M_goOn_50 : decode bb_M_goOn 50 = .ok (.getfield 41, 3) := by decide +kernel
theorem dd_M_goOn_53 : decode bb_M_goOn 53 = .ok (.iload 4, 2) := by decide +kernel
theorem dd_M_goOn_55 : decode bb_M_goOn 55 = .ok (.iconst 3, 1) := by decide +kernel
theorem dd_M_goOn_56 : decode bb_M_goOn 56 = .ok (.iadd, 1) := by decide +kernel
theorem dd_M_goOn_57 : decode bb_M_goOn 57 = .ok (.baload, 1) := by decide +kernel
theorem dd_M_goOn_58 : decode bb_M_goOn 58 = .ok (.ifCond .ne (4), 3) := by decide +kernel
theorem dd_M_goOn_61 : decode bb_M_goOn 61 = .ok (.return_, 1) := by decide +kernel
theorem dd_M_goOn_62 : decode bb_M_goOn 62 = .ok (.aload_n 0, 1) := by decide +kernel
theorem dd_M_goOn_63 : decode bb_M_goOn 63 = .ok (.aload_n 0, 1) := by decide +kernel
theorem dd_M_goOn_64 : decode bb_M_goOn 64 = .ok (.getfield 38, 3) := by decide +kernel
theorem dd_M_goOn_67 : decode bb_M_goOn 67 = .ok (.iload_n 1, 1) := by decide +kernel
theorem dd_M_goOn_68 : decode bb_M_goOn 68 = .ok (.iaload, 1) := by decide +kernel
theorem dd_M_goOn_69 : decode bb_M_goOn 69 = .ok (.aload_n 0, 1) := by decide +kernel
theorem dd_M_goOn_70 : decode bb_M_goOn 70 = .ok (.getfield 38, 3) := by decide +kernel
theorem dd_M_goOn_73 : decode bb_M_goOn 73 = .ok (.iload_n 2, 1) := by decide +kernel
theorem dd_M_goOn_74 : decode bb_M_goOn 74 = .ok (.iaload, 1) := by decide +kernel
theorem dd_M_goOn_75 : decode bb_M_goOn 75 = .ok (.iload_n 3, 1) := by decide +kernel
theorem dd_M_goOn_76 : decode bb_M_goOn 76 = .ok (.invokevirtual 142, 3) := by decide +kernel
theorem dd_M_goOn_79 : decode bb_M_goOn 79 = .ok (.aload_n 0, 1) := by decide +kernel
theorem dd_M_goOn_80 : decode bb_M_goOn 80 = .ok (.invokevirtual 146, 3) := by decide +kernel
theorem dd_M_goOn_83 : decode bb_M_goOn 83 = .ok (.ifCond .ne (4), 3) := by decide +kernel
theorem dd_M_goOn_86 : decode bb_M_goOn 86 = .ok (.return_, 1) := by decide +kernel
theorem dd_M_goOn_87 : decode bb_M_goOn 87 = .ok (.iconst 0, 1) := by decide +kernel
theorem dd_M_goOn_88 : decode bb_M_goOn 88 = .ok (.istore 5, 2) := by decide +kernel
theorem dd_M_goOn_90 : decode bb_M_goOn 90 = .ok (.iload 5, 2) := by decide +kernel
theorem dd_M_goOn_92 : decode bb_M_goOn 92 = .ok (.iconst 4, 1) := by decide +kernel
theorem dd_M_goOn_93 : decode bb_M_goOn 93 = .ok (.if_icmp .ge (95), 3) := by decide +kernel
theorem dd_M_goOn_96 : decode bb_M_goOn 96 = .ok (.aload_n 0, 1) := by decide +kernel
theorem dd_M_goOn_97 : decode bb_M_goOn 97 = .ok (.getfield 41, 3) := by decide +kernel
theorem dd_M_goOn_100 : decode bb_M_goOn 100 = .ok (.iload 4, 2) := by decide +kernel
theorem dd_M_goOn_102 : decode bb_M_goOn 102 = .ok (.iload 5, 2) := by decide +kernel
theorem dd_M_goOn_104 : decode bb_M_goOn 104 = .ok (.iadd, 1) := by decide +kernel
theorem dd_M_goOn_105 : decode bb_M_goOn 105 = .ok (.baload, 1) := by decide +kernel
theorem dd_M_goOn_106 : decode bb_M_goOn 106 = .ok (.ifCond .eq (76), 3) := by decide +kernel
theorem dd_M_goOn_109 : decode bb_M_goOn 109 = .ok (.aload_n 0, 1) := by decide +kernel
theorem dd_M_goOn_110 : decode bb_M_goOn 110 = .ok (.iload_n 2, 1) := by decide +kernel
theorem dd_M_goOn_111 : decode bb_M_goOn 111 = .ok (.iload_n 3, 1) := by decide +kernel
theorem dd_M_goOn_112 : decode bb_M_goOn 112 = .ok (.aload_n 0, 1) := by decide +kernel
theorem dd_M_goOn_113 : decode bb_M_goOn 113 = .ok (.getfield 45, 3) := by decide +kernel
theorem dd_M_goOn_116 : decode bb_M_goOn 116 = .ok (.iload 4, 2) := by decide +kernel
theorem dd_M_goOn_118 : decode bb_M_goOn 118 = .ok (.iload 5, 2) := by decide +kernel
theorem dd_M_goOn_120 : decode bb_M_goOn 120 = .ok (.iadd, 1) := by decide +kernel
theorem dd_M_goOn_121 : decode bb_M_goOn 121 = .ok (.laload, 1) := by decide +kernel
theorem dd_M_goOn_122 : decode bb_M_goOn 122 = .ok (.aload_n 0, 1) := by decide +kernel
theorem dd_M_goOn_123 : decode bb_M_goOn 123 = .ok (.getfield 118, 3) := by decide +kernel
theorem dd_M_goOn_126 : decode bb_M_goOn 126 = .ok (.ladd, 1) := by decide +kernel
theorem dd_M_goOn_127 : decode bb_M_goOn 127 = .ok (.aload_n 0, 1) := by decide +kernel
theorem dd_M_goOn_128 : decode bb_M_goOn 128 = .ok (.getfield 49, 3) := by decide +kernel
theorem dd_M_goOn_131 : decode bb_M_goOn 131 = .ok (.iload 4, 2) := by decide +kernel
theorem dd_M_goOn_133 : decode bb_M_goOn 133 = .ok (.iload 5, 2) := by decide +kernel
theorem dd_M_goOn_135 : decode bb_M_goOn 135 = .ok (.iadd, 1) := by decide +kernel
theorem dd_M_goOn_136 : decode bb_M_goOn 136 = .ok (.iaload, 1) := by decide +kernel
theorem dd_M_goOn_137 : decode bb_M_goOn 137 = .ok (.aload_n 0, 1) := by decide +kernel
theorem dd_M_goOn_138 : decode bb_M_goOn 138 = .ok (.invokevirtual 150, 3) := by decide +kernel
theorem dd_M_goOn_141 : decode bb_M_goOn 141 = .ok (.iadd, 1) := by decide +kernel
theorem dd_M_goOn_142 : decode bb_M_goOn 142 = .ok (.aload_n 0, 1) := by decide +kernel
theorem dd_M_goOn_143 : decode bb_M_goOn 143 = .ok (.getfield 52, 3) := by decide +kernel
theorem dd_M_goOn_146 : decode bb_M_goOn 146 = .ok (.iload 4, 2) := by decide +kernel
theorem dd_M_goOn_148 : decode bb_M_goOn 148 = .ok (.iload 5, 2) := by decide +kernel
theorem dd_M_goOn_150 : decode bb_M_goOn 150 = .ok (.iadd, 1) := by decide +kernel
theorem dd_M_goOn_151 : decode bb_M_goOn 151 = .ok (.laload, 1) := by decide +kernel
theorem dd_M_goOn_152 : decode bb_M_goOn 152 = .ok (.aload_n 0, 1) := by decide +kernel
theorem dd_M_goOn_153 : decode bb_M_goOn 153 = .ok (.aload_n 0, 1) := by decide +kernel
theorem dd_M_goOn_154 : decode bb_M_goOn 154 = .ok (.getfield 38, 3) := by decide +kernel
theorem dd_M_goOn_157 : decode bb_M_goOn 157 = .ok (.iload_n 1, 1) := by decide +kernel
theorem dd_M_goOn_158 : decode bb_M_goOn 158 = .ok (.iaload, 1) := by decide +kernel
theorem dd_M_goOn_159 : decode bb_M_goOn 159 = .ok (.aload_n 0, 1) := by decide +kernel
theorem dd_M_goOn_160 : decode bb_M_goOn 160 = .ok (.getfield 38, 3) := by decide +kernel
theorem dd_M_goOn_163 : decode bb_M_goOn 163 = .ok (.iload_n 2, 1) := by decide +kernel
theorem dd_M_goOn_164 : decode bb_M_goOn 164 = .ok (.iaload, 1) := by decide +kernel
theorem dd_M_goOn_165 : decode bb_M_goOn 165 = .ok (.iload 5, 2) := by decide +kernel
theorem dd_M_goOn_167 : decode bb_M_goOn 167 = .ok (.invokevirtual 154, 3) := by decide +kernel
theorem dd_M_goOn_170 : decode bb_M_goOn 170 = .ok (.ladd, 1) := by decide +kernel
theorem dd_M_goOn_171 : decode bb_M_goOn 171 = .ok (.iconst 4, 1) := by decide +kernel
theorem dd_M_goOn_172 : decode bb_M_goOn 172 = .ok (.iload_n 1, 1) := by decide +kernel
theorem dd_M_goOn_173 : decode bb_M_goOn 173 = .ok (.imul, 1) := by decide +kernel
theorem dd_M_goOn_174 : decode bb_M_goOn 174 = .ok (.iload 5, 2) := by decide +kernel
theorem dd_M_goOn_176 : decode bb_M_goOn 176 = .ok (.iadd, 1) := by decide +kernel
theorem dd_M_goOn_177 : decode bb_M_goOn 177 = .ok (.iconst 1, 1) := by decide +kernel
theorem dd_M_goOn_178 : decode bb_M_goOn 178 = .ok (.iadd, 1) := by decide +kernel
theorem dd_M_goOn_179 : decode bb_M_goOn 179 = .ok (.invokevirtual 158, 3) := by decide +kernel
theorem dd_M_goOn_182 : decode bb_M_goOn 182 = .ok (.iinc 5 (1), 3) := by decide +kernel
theorem dd_M_goOn_185 : decode bb_M_goOn 185 = .ok (.goto (-95), 3) := by decide +kernel
theorem dd_M_goOn_188 : decode bb_M_goOn 188 = .ok (.return_, 1) := by decide +kernel

set_option maxHeartbeats 4000000 in
set_option maxRecDepth 100000 in
theorem ct_M_goOn (l : Launch) (D : va_G) (cI cJ cZ : ClassId) (sz : Nat) (o : Nat) (th : Nat) (cn : Nat) (a0 : Nat) (a1 : Nat) (a2 : Nat) (a3 : Nat) (a4 : Nat) (a5 : Nat) (mn : Nat) (a6 : Nat) (a7 : Nat) (ps : Nat) (bk : Nat) (a8 : Nat) (a9 : Nat) (a10 : Nat) (a11 : Nat) (a12 : Nat) (a13 : Nat) (a14 : Nat) (a15 : Nat) (kf : Nat) (lb : Int32) (lc : Nat) (lo : Int64) (el : Nat) (ec : Nat) (eo : Int64) (eb : Int32) (ed : Int64) (mp : Nat) (ml : Nat) (md : Int64) (mo : Int64) (mb : Int32) (a16 : Nat) (a17 : Nat) (kd : Nat → Int32) (wd : Nat → Int32) (sr : Nat → Int32) (od : Nat → Int32) (sk : Nat → Int32) (ru : Nat → Int32) (me : Nat → Int32) (si : Nat → Int32) (it : Nat → Int32) (iz : Nat → Int32) (ou : Nat → Int64) (ba : Nat → Int32) (de : Nat → Int64) (bc : Nat → Int64) (su : Nat → Int64) (ke : Nat → Int64) (i : Nat) (j : Nat) (n : Nat) (ik : Nat) (b : Nat) (hij : i < j) (hj : j < 400) (hn : n ≤ 400) (hn1 : 1 ≤ n) (hik : it i = nI ik) (hbk : it j = nI b) (hkb : ik < b) (hb : b ≤ cn) (hc : cn ≤ 4096) (hm : mn ≤ 256) (h1 : 1 ≤ ps) (h3 : ps ≤ 3) : kx_Mv l yy_M_goOn ww_M_goOn ({ frames := 2, cells := 0, slots := 0, locals := 60 }) D vwCl (kx_ty cI cJ cZ) [.ref o, .int (nI i), .int (nI j), .int (nI n)] [(o, .inr (0, [.int (nI th), .int (nI cn), .ref a0, .ref a1, .ref a2, .ref a3, .ref a4, .ref a5, .int (nI mn), .ref a6, .ref a7, .int (nI ps), .int (nI bk), .ref a8, .ref a9, .ref a10, .ref a11, .ref a12, .ref a13, .ref a14, .ref a15, .int (nI kf), .int lb, .int (nI lc), .long lo, .int (nI el), .int (nI ec), .long eo, .int eb, .long ed, .int (nI mp), .int (nI ml), .long md, .long mo, .int mb, .ref a16, .ref a17])), (a0, .inl (cI, 4097, .inl kd)), (a1, .inl (cI, 4097, .inl wd)), (a2, .inl (cI, 4097, .inl sr)), (a3, .inl (cI, 4097, .inl od)), (a4, .inl (cI, 4097, .inl sk)), (a5, .inl (cI, 9, .inl ru)), (a6, .inl (cI, 258, .inl me)), (a7, .inl (cI, 8, .inl si)), (a8, .inl (cI, 402, .inl it)), (a9, .inl (cZ, 3216, .inl iz)), (a10, .inl (cJ, 3216, .inr (.inl ou))), (a11, .inl (cI, 3216, .inl ba)), (a12, .inl (cJ, 3216, .inr (.inl de))), (a13, .inl (cJ, 161604, .inr (.inl bc))), (a14, .inl (cJ, 6, .inr (.inl su))), (a15, .inl (cJ, 6, .inr (.inl ke)))] sz (fun (u : (Nat → Int32) × (Nat → Int64) × (Nat → Int32) × (Nat → Int64) × (Nat → Int64) × Int32 × Nat × Int64) => (∀ c, c < 4 → pt_tb u.1 u.2.1 u.2.2.1 u.2.2.2.1 u.2.2.2.2.1 n j c = if pm_ok ru ps (pl_B (pm_S (pm_wh kd od ik) su ke) si (if pm_hy kd cn b then (sr b).toInt64 else 0) (if pm_hy kd cn ik then (sk ik).toInt64 else 0) (me (pm_mi n mn))) (pl_O (pm_S (pm_wh kd od ik) su ke) si (if pm_hy kd cn b then (sr b).toInt64 else 0) (if pm_hy kd cn ik then (sk ik).toInt64 else 0) (me (pm_mi n mn))) then pt_go ps (pl_C (pm_S (pm_wh kd od ik) su ke) si (if pm_hy kd cn b then (sr b).toInt64 else 0) (if pm_hy kd cn ik then (sk ik).toInt64 else 0) (me (pm_mi n mn))) (pm_ab (pl_B (pm_S (pm_wh kd od ik) su ke) si (if pm_hy kd cn b then (sr b).toInt64 else 0) (if pm_hy kd cn ik then (sk ik).toInt64 else 0) (me (pm_mi n mn))) (ru 1)) i (pl_O (pm_S (pm_wh kd od ik) su ke) si (if pm_hy kd cn b then (sr b).toInt64 else 0) (if pm_hy kd cn ik then (sk ik).toInt64 else 0) (me (pm_mi n mn))) (fun x => pm_cost ru (pl_B (pm_S (pm_wh kd od ik) su ke) si (if pm_hy kd cn b then (sr b).toInt64 else 0) (if pm_hy kd cn ik then (sk ik).toInt64 else 0) (me (pm_mi n mn))) (pm_pen kd wd od ru cn b) (pl_C (pm_S (pm_wh kd od ik) su ke) si (if pm_hy kd cn b then (sr b).toInt64 else 0) (if pm_hy kd cn ik then (sk ik).toInt64 else 0) (me (pm_mi n mn))) x (pm_hy kd cn b) (pm_hy kd cn ik) (b = cn)) (pt_pv iz ou ba de (1608 * ((n + 1) % 2) + 4 * i)) (pt_tb iz ou ba de bc n j) 4 c else pt_tb iz ou ba de bc n j c) ∧ pt_fr j n iz ou ba de bc u.1 u.2.1 u.2.2.1 u.2.2.2.1 u.2.2.2.2.1) (fun (u : (Nat → Int32) × (Nat → Int64) × (Nat → Int32) × (Nat → Int64) × (Nat → Int64) × Int32 × Nat × Int64) => [(o, .inr (0, [.int (nI th), .int (nI cn), .ref a0, .ref a1, .ref a2, .ref a3, .ref a4, .ref a5, .int (nI mn), .ref a6, .ref a7, .int (nI ps), .int (nI bk), .ref a8, .ref a9, .ref a10, .ref a11, .ref a12, .ref a13, .ref a14, .ref a15, .int (nI kf), .int u.2.2.2.2.2.1, .int (nI u.2.2.2.2.2.2.1), .long u.2.2.2.2.2.2.2, .int (nI el), .int (nI ec), .long eo, .int eb, .long ed, .int (nI mp), .int (nI ml), .long md, .long mo, .int mb, .ref a16, .ref a17])), (a0, .inl (cI, 4097, .inl kd)), (a1, .inl (cI, 4097, .inl wd)), (a2, .inl (cI, 4097, .inl sr)), (a3, .inl (cI, 4097, .inl od)), (a4, .inl (cI, 4097, .inl sk)), (a5, .inl (cI, 9, .inl ru)), (a6, .inl (cI, 258, .inl me)), (a7, .inl (cI, 8, .inl si)), (a8, .inl (cI, 402, .inl it)), (a9, .inl (cZ, 3216, .inl u.1)), (a10, .inl (cJ, 3216, .inr (.inl u.2.1))), (a11, .inl (cI, 3216, .inl u.2.2.1)), (a12, .inl (cJ, 3216, .inr (.inl u.2.2.2.1))), (a13, .inl (cJ, 161604, .inr (.inl u.2.2.2.2.1))), (a14, .inl (cJ, 6, .inr (.inl su))), (a15, .inl (cJ, 6, .inr (.inl ke)))]) 0 0 := by
  refine kx_startv (by decide) rfl (Nat.le_of_ble_eq_true rfl) ?_
  intro p e s m below meth c A ls hx hb hr hml hts hown hlocks hin hP hK hN hD hA hS hl
  have hl : lv_has ls 6 [(0, .ref o), (1, .int (nI i)), (2, .int (nI j)), (3, .int (nI n))] := hl
  have hown : s.vm.findClass rr_M = some m.cls := hown
  have lk0 := hts _ (kx_m kw_812)
  have hin0 : ∀ w ∈ u_ws rr_M tt_M 37, w ∈ ww_M_goOn := fun w h => kx_m (kf_M w h)
  have lk2 := hts _ (kx_m kw_811)
  have lk3 := hts _ (kx_m kw_813)
  have lk4 := hts _ (kx_m kw_822)
  have lk5 := hts _ (kx_m kw_814)
  have lk6 := hts _ (kx_m kw_815)
  obtain ⟨H, hH⟩ : ∃ H, H = s.heap := ⟨_, rfl⟩
  obtain ⟨locs, hlocs⟩ : ∃ z : List Loc, z = [] := ⟨_, rfl⟩
  have hP : va_P D vwCl [(o, .inr (0, [.int (nI th), .int (nI cn), .ref a0, .ref a1, .ref a2, .ref a3, .ref a4, .ref a5, .int (nI mn), .ref a6, .ref a7, .int (nI ps), .int (nI bk), .ref a8, .ref a9, .ref a10, .ref a11, .ref a12, .ref a13, .ref a14, .ref a15, .int (nI kf), .int lb, .int (nI lc), .long lo, .int (nI el), .int (nI ec), .long eo, .int eb, .long ed, .int (nI mp), .int (nI ml), .long md, .long mo, .int mb, .ref a16, .ref a17])), (a0, .inl (cI, 4097, .inl kd)), (a1, .inl (cI, 4097, .inl wd)), (a2, .inl (cI, 4097, .inl sr)), (a3, .inl (cI, 4097, .inl od)), (a4, .inl (cI, 4097, .inl sk)), (a5, .inl (cI, 9, .inl ru)), (a6, .inl (cI, 258, .inl me)), (a7, .inl (cI, 8, .inl si)), (a8, .inl (cI, 402, .inl it)), (a9, .inl (cZ, 3216, .inl iz)), (a10, .inl (cJ, 3216, .inr (.inl ou))), (a11, .inl (cI, 3216, .inl ba)), (a12, .inl (cJ, 3216, .inr (.inl de))), (a13, .inl (cJ, 161604, .inr (.inl bc))), (a14, .inl (cJ, 6, .inr (.inl su))), (a15, .inl (cJ, 6, .inr (.inl ke)))] H := by rw [hH]; exact hP
  have hS : va_S A s.heap H locs := by rw [hH, hlocs]; exact hS
  refine kx_gen hH hlocs ?_
  clear hH hlocs
  refine kx_nameQ (fun Q hQ => ?_)
  refine lv_sipush (v := nI 1608) hx hb dd_M_goOn_0 (by decide) ?_
  refine lv_iload_n hx hb dd_M_goOn_3 rfl (lv_at hl 3 rfl) ?_
  refine lv_iconst (v := nI 1) hx hb dd_M_goOn_4 (by decide) ?_
  refine kx_iadd hx hb dd_M_goOn_5 ?_
  refine lv_iconst (v := nI 1) hx hb dd_M_goOn_6 (by decide) ?_
  refine lv_iand hx hb dd_M_goOn_7 ?_
  refine kx_toN (n := (n + 1) % 2) (kn_and1 (by omega)) ?_
  refine kx_imul hx hb dd_M_goOn_8 ?_
  refine lv_iconst (v := nI 4) hx hb dd_M_goOn_9 (by decide) ?_
  refine lv_iload_n hx hb dd_M_goOn_10 rfl (lv_at hl 1 rfl) ?_
  refine kx_imul hx hb dd_M_goOn_11 ?_
  refine kx_iadd hx hb dd_M_goOn_12 ?_
  have hidx : 1608 * ((n + 1) % 2) + 4 * i + 3 < 3216 := by omega
  refine lv_istore (lv' := [(4, .int (nI ((1608 * ((n + 1) % 2)) + (4 * i)))), (0, .ref o), (1, .int (nI i)), (2, .int (nI j)), (3, .int (nI n))]) hx hb dd_M_goOn_13 hl (by decide) rfl (fun ls hl => ?_)
  refine lv_aload_n hx hb dd_M_goOn_15 rfl (lv_at hl 1 rfl) ?_
  refine va_get (D := D) (ci := 0) (v := .ref a9) (C := rr_M) (T := tt_M) (N := 37) hx hb hts hin0 hown hK hP 0 kg_17_0 rfl 14 (by decide) lk0 (fun _ h9 => h9) rfl dd_M_goOn_16 ?_
  refine lv_iload hx hb dd_M_goOn_19 (lv_at hl 0 rfl) ?_
  refine kx_zald (q0 := 10) (t0 := 2) hx hb dd_M_goOn_21 hK hP kg_17_10 rfl (by omega) (by omega) ?_
  refine kx_joinv (D := D) (cl := vwCl) (A := A) (ws := [(o, .inr (0, [.int (nI th), .int (nI cn), .ref a0, .ref a1, .ref a2, .ref a3, .ref a4, .ref a5, .int (nI mn), .ref a6, .ref a7, .int (nI ps), .int (nI bk), .ref a8, .ref a9, .ref a10, .ref a11, .ref a12, .ref a13, .ref a14, .ref a15, .int (nI kf), .int lb, .int (nI lc), .long lo, .int (nI el), .int (nI ec), .long eo, .int eb, .long ed, .int (nI mp), .int (nI ml), .long md, .long mo, .int mb, .ref a16, .ref a17])), (a0, .inl (cI, 4097, .inl kd)), (a1, .inl (cI, 4097, .inl wd)), (a2, .inl (cI, 4097, .inl sr)), (a3, .inl (cI, 4097, .inl od)), (a4, .inl (cI, 4097, .inl sk)), (a5, .inl (cI, 9, .inl ru)), (a6, .inl (cI, 258, .inl me)), (a7, .inl (cI, 8, .inl si)), (a8, .inl (cI, 402, .inl it)), (a9, .inl (cZ, 3216, .inl iz)), (a10, .inl (cJ, 3216, .inr (.inl ou))), (a11, .inl (cI, 3216, .inl ba)), (a12, .inl (cJ, 3216, .inr (.inl de))), (a13, .inl (cJ, 161604, .inr (.inl bc))), (a14, .inl (cJ, 6, .inr (.inl su))), (a15, .inl (cJ, 6, .inr (.inl ke)))]) (Y := 62) (ls1 := ls) (st1 := []) (fun H locs hP hD hS => ?_) (fun K62 => ?_)
  · skip
    refine lv_aload_n hx hb dd_M_goOn_62 rfl (lv_at hl 1 rfl) ?_
    refine lv_aload_n hx hb dd_M_goOn_63 rfl (lv_at hl 1 rfl) ?_
    refine va_get (D := D) (ci := 0) (v := .ref a8) (C := rr_M) (T := tt_M) (N := 37) hx hb hts hin0 hown hK hP 0 kg_17_0 rfl 13 (by decide) lk2 (fun _ h9 => h9) rfl dd_M_goOn_64 ?_
    refine lv_iload_n hx hb dd_M_goOn_67 rfl (lv_at hl 2 rfl) ?_
    refine kx_iald (q0 := 9) (t0 := 0) hx hb dd_M_goOn_68 hK hP kg_17_9 rfl (by omega) (by omega) ?_
    refine kx_toN (n := ik) (hik) ?_
    refine lv_aload_n hx hb dd_M_goOn_69 rfl (lv_at hl 1 rfl) ?_
    refine va_get (D := D) (ci := 0) (v := .ref a8) (C := rr_M) (T := tt_M) (N := 37) hx hb hts hin0 hown hK hP 0 kg_17_0 rfl 13 (by decide) lk2 (fun _ h9 => h9) rfl dd_M_goOn_70 ?_
    refine lv_iload_n hx hb dd_M_goOn_73 rfl (lv_at hl 3 rfl) ?_
    refine kx_iald (q0 := 9) (t0 := 0) hx hb dd_M_goOn_74 hK hP kg_17_9 rfl (by omega) (by omega) ?_
    refine kx_toN (n := b) (hbk) ?_
    refine lv_iload_n hx hb dd_M_goOn_75 rfl (lv_at hl 4 rfl) ?_
    refine kx_callv (wr := [(a1, .inl (cI, 4097, .inl wd)), (a5, .inl (cI, 9, .inl ru)), (a8, .inl (cI, 402, .inl it)), (a9, .inl (cZ, 3216, .inl iz)), (a10, .inl (cJ, 3216, .inr (.inl ou))), (a11, .inl (cI, 3216, .inl ba)), (a12, .inl (cJ, 3216, .inr (.inl de))), (a13, .inl (cJ, 161604, .inr (.inl bc)))]) (va_runV (C := rr_M) (As := [.int (nI ik), .int (nI b), .int (nI n)]) (rest := []) ⟨hx, hb, hml, hown, hts⟩ (ct_M_weigh l D cI cJ cZ H.size o th cn a0 a1 a2 a3 a4 a5 mn a6 a7 ps bk a8 a9 a10 a11 a12 a13 a14 a15 kf lb lc lo el ec eo eb ed mp ml md mo mb a16 a17 kd sr od sk me si su ke ik b n (by omega) (by omega) (by omega) (by omega) (by omega)) ⟨(callB_of 3 hts (kx_good kw_998) rfl rfl rfl (hts _ (kx_m kw_53)) (hts _ (kx_m kw_995)) (by decide +kernel) ⟨Nat.le_of_ble_eq_true rfl, Nat.le_of_ble_eq_true rfl⟩), (hts _ (kx_m kw_997)), (hts _ (kx_m kw_31))⟩ (kx_preV (ci := 0) (q0 := 0) hK hN (hP.sub [0, 1, 3, 4, 5, 7, 8, 15, 16] kt_17_0_1_3_4_5_7_8_15_16) (hD.sub [0, 1, 3, 4, 5, 7, 8, 15, 16] (by decide) ks_17_0_1_3_4_5_7_8_15_16) rfl kg_9_0) rfl rfl hl.1 rfl (lv_room (Nat.le_of_ble_eq_true rfl)) dd_M_goOn_76 ⟨Nat.le_of_ble_eq_true rfl, Nat.le_of_ble_eq_true rfl⟩) hP hD hS hA [0, 1, 3, 4, 5, 7, 8, 15, 16] [2, 6, 9, 10, 11, 12, 13, 14] ks_17_0_1_3_4_5_7_8_15_16 ks_17_2_6_9_10_11_12_13_14 (by decide) (by decide) (fun u76 H locs hw76 hP hD hS => ?_)
    obtain ⟨lb2_76, lc2_76, lo2_76⟩ := u76
    have hP : va_P D vwCl [(a1, .inl (cI, 4097, .inl wd)), (a5, .inl (cI, 9, .inl ru)), (a8, .inl (cI, 402, .inl it)), (a9, .inl (cZ, 3216, .inl iz)), (a10, .inl (cJ, 3216, .inr (.inl ou))), (a11, .inl (cI, 3216, .inl ba)), (a12, .inl (cJ, 3216, .inr (.inl de))), (a13, .inl (cJ, 161604, .inr (.inl bc))), (o, .inr (0, [.int (nI th), .int (nI cn), .ref a0, .ref a1, .ref a2, .ref a3, .ref a4, .ref a5, .int (nI mn), .ref a6, .ref a7, .int (nI ps), .int (nI bk), .ref a8, .ref a9, .ref a10, .ref a11, .ref a12, .ref a13, .ref a14, .ref a15, .int (nI kf), .int lb2_76, .int (nI lc2_76), .long lo2_76, .int (nI el), .int (nI ec), .long eo, .int eb, .long ed, .int (nI mp), .int (nI ml), .long md, .long mo, .int mb, .ref a16, .ref a17])), (a0, .inl (cI, 4097, .inl kd)), (a2, .inl (cI, 4097, .inl sr)), (a3, .inl (cI, 4097, .inl od)), (a4, .inl (cI, 4097, .inl sk)), (a6, .inl (cI, 258, .inl me)), (a7, .inl (cI, 8, .inl si)), (a14, .inl (cJ, 6, .inr (.inl su))), (a15, .inl (cJ, 6, .inr (.inl ke)))] H := hP
    have hD : va_D A [(a1, .inl (cI, 4097, .inl wd)), (a5, .inl (cI, 9, .inl ru)), (a8, .inl (cI, 402, .inl it)), (a9, .inl (cZ, 3216, .inl iz)), (a10, .inl (cJ, 3216, .inr (.inl ou))), (a11, .inl (cI, 3216, .inl ba)), (a12, .inl (cJ, 3216, .inr (.inl de))), (a13, .inl (cJ, 161604, .inr (.inl bc))), (o, .inr (0, [.int (nI th), .int (nI cn), .ref a0, .ref a1, .ref a2, .ref a3, .ref a4, .ref a5, .int (nI mn), .ref a6, .ref a7, .int (nI ps), .int (nI bk), .ref a8, .ref a9, .ref a10, .ref a11, .ref a12, .ref a13, .ref a14, .ref a15, .int (nI kf), .int lb2_76, .int (nI lc2_76), .long lo2_76, .int (nI el), .int (nI ec), .long eo, .int eb, .long ed, .int (nI mp), .int (nI ml), .long md, .long mo, .int mb, .ref a16, .ref a17])), (a0, .inl (cI, 4097, .inl kd)), (a2, .inl (cI, 4097, .inl sr)), (a3, .inl (cI, 4097, .inl od)), (a4, .inl (cI, 4097, .inl sk)), (a6, .inl (cI, 258, .inl me)), (a7, .inl (cI, 8, .inl si)), (a14, .inl (cJ, 6, .inr (.inl su))), (a15, .inl (cJ, 6, .inr (.inl ke)))] := hD
    have hP : va_P D vwCl [(o, .inr (0, [.int (nI th), .int (nI cn), .ref a0, .ref a1, .ref a2, .ref a3, .ref a4, .ref a5, .int (nI mn), .ref a6, .ref a7, .int (nI ps), .int (nI bk), .ref a8, .ref a9, .ref a10, .ref a11, .ref a12, .ref a13, .ref a14, .ref a15, .int (nI kf), .int lb2_76, .int (nI lc2_76), .long lo2_76, .int (nI el), .int (nI ec), .long eo, .int eb, .long ed, .int (nI mp), .int (nI ml), .long md, .long mo, .int mb, .ref a16, .ref a17])), (a0, .inl (cI, 4097, .inl kd)), (a1, .inl (cI, 4097, .inl wd)), (a2, .inl (cI, 4097, .inl sr)), (a3, .inl (cI, 4097, .inl od)), (a4, .inl (cI, 4097, .inl sk)), (a5, .inl (cI, 9, .inl ru)), (a6, .inl (cI, 258, .inl me)), (a7, .inl (cI, 8, .inl si)), (a8, .inl (cI, 402, .inl it)), (a9, .inl (cZ, 3216, .inl iz)), (a10, .inl (cJ, 3216, .inr (.inl ou))), (a11, .inl (cI, 3216, .inl ba)), (a12, .inl (cJ, 3216, .inr (.inl de))), (a13, .inl (cJ, 161604, .inr (.inl bc))), (a14, .inl (cJ, 6, .inr (.inl su))), (a15, .inl (cJ, 6, .inr (.inl ke)))] H := hP.sub [8, 9, 0, 10, 11, 12, 1, 13, 14, 2, 3, 4, 5, 6, 7, 15, 16] kt_17_8_9_0_10_11_12_1_13_14_2_3_4_5_6_7_15_16
    have hD : va_D A [(o, .inr (0, [.int (nI th), .int (nI cn), .ref a0, .ref a1, .ref a2, .ref a3, .ref a4, .ref a5, .int (nI mn), .ref a6, .ref a7, .int (nI ps), .int (nI bk), .ref a8, .ref a9, .ref a10, .ref a11, .ref a12, .ref a13, .ref a14, .ref a15, .int (nI kf), .int lb2_76, .int (nI lc2_76), .long lo2_76, .int (nI el), .int (nI ec), .long eo, .int eb, .long ed, .int (nI mp), .int (nI ml), .long md, .long mo, .int mb, .ref a16, .ref a17])), (a0, .inl (cI, 4097, .inl kd)), (a1, .inl (cI, 4097, .inl wd)), (a2, .inl (cI, 4097, .inl sr)), (a3, .inl (cI, 4097, .inl od)), (a4, .inl (cI, 4097, .inl sk)), (a5, .inl (cI, 9, .inl ru)), (a6, .inl (cI, 258, .inl me)), (a7, .inl (cI, 8, .inl si)), (a8, .inl (cI, 402, .inl it)), (a9, .inl (cZ, 3216, .inl iz)), (a10, .inl (cJ, 3216, .inr (.inl ou))), (a11, .inl (cI, 3216, .inl ba)), (a12, .inl (cJ, 3216, .inr (.inl de))), (a13, .inl (cJ, 161604, .inr (.inl bc))), (a14, .inl (cJ, 6, .inr (.inl su))), (a15, .inl (cJ, 6, .inr (.inl ke)))] := hD.sub [8, 9, 0, 10, 11, 12, 1, 13, 14, 2, 3, 4, 5, 6, 7, 15, 16] (by decide) ks_17_8_9_0_10_11_12_1_13_14_2_3_4_5_6_7_15_16
    have hw76 : lb2_76 = pm_lb (pm_ex (pm_S (pm_wh kd od ik) su ke) si (if pm_hy kd cn b then (sr b).toInt64 else 0) (if pm_hy kd cn ik then (sk ik).toInt64 else 0) (me (pm_mi n mn))) (pm_pl (pm_S (pm_wh kd od ik) su ke) si) (pm_fa (pm_S (pm_wh kd od ik) su ke) si) (pm_le (pm_S (pm_wh kd od ik) su ke) si) ∧ lc2_76 = pm_lc (pm_ex (pm_S (pm_wh kd od ik) su ke) si (if pm_hy kd cn b then (sr b).toInt64 else 0) (if pm_hy kd cn ik then (sk ik).toInt64 else 0) (me (pm_mi n mn))) (pm_pl (pm_S (pm_wh kd od ik) su ke) si) (pm_fa (pm_S (pm_wh kd od ik) su ke) si) (pm_le (pm_S (pm_wh kd od ik) su ke) si) ∧ lo2_76 = pm_lo (pm_ex (pm_S (pm_wh kd od ik) su ke) si (if pm_hy kd cn b then (sr b).toInt64 else 0) (if pm_hy kd cn ik then (sk ik).toInt64 else 0) (me (pm_mi n mn))) (pm_le (pm_S (pm_wh kd od ik) su ke) si) := hw76
    obtain ⟨eB, eC, eO⟩ := hw76
    have eB : lb2_76 = (pl_B (pm_S (pm_wh kd od ik) su ke) si (if pm_hy kd cn b then (sr b).toInt64 else 0) (if pm_hy kd cn ik then (sk ik).toInt64 else 0) (me (pm_mi n mn))) := eB
    have eC : lc2_76 = (pl_C (pm_S (pm_wh kd od ik) su ke) si (if pm_hy kd cn b then (sr b).toInt64 else 0) (if pm_hy kd cn ik then (sk ik).toInt64 else 0) (me (pm_mi n mn))) := eC
    have eO : lo2_76 = (pl_O (pm_S (pm_wh kd od ik) su ke) si (if pm_hy kd cn b then (sr b).toInt64 else 0) (if pm_hy kd cn ik then (sk ik).toInt64 else 0) (me (pm_mi n mn))) := eO
    have hlc3 : lc2_76 ≤ 3 := by rw [eC]; exact pm_lc_le _ _ _ _
    refine lv_aload_n hx hb dd_M_goOn_79 rfl (lv_at hl 1 rfl) ?_
    refine kx_calli (wr := [(a0, .inl (cI, 4097, .inl kd)), (a1, .inl (cI, 4097, .inl wd)), (a2, .inl (cI, 4097, .inl sr)), (a3, .inl (cI, 4097, .inl od)), (a4, .inl (cI, 4097, .inl sk)), (a6, .inl (cI, 258, .inl me)), (a7, .inl (cI, 8, .inl si)), (a8, .inl (cI, 402, .inl it)), (a9, .inl (cZ, 3216, .inl iz)), (a10, .inl (cJ, 3216, .inr (.inl ou))), (a11, .inl (cI, 3216, .inl ba)), (a12, .inl (cJ, 3216, .inr (.inl de))), (a13, .inl (cJ, 161604, .inr (.inl bc))), (a14, .inl (cJ, 6, .inr (.inl su))), (a15, .inl (cJ, 6, .inr (.inl ke)))]) (va_runV (C := rr_M) (As := []) (rest := []) ⟨hx, hb, hml, hown, hts⟩ (ct_M_fits l D cI cJ cZ H.size o th cn a0 a1 a2 a3 a4 a5 mn a6 a7 ps bk a8 a9 a10 a11 a12 a13 a14 a15 kf lb2_76 lc2_76 lo2_76 el ec eo eb ed mp ml md mo mb a16 a17 ru (by omega) (by omega)) ⟨(callB_of 0 hts (kx_good kw_1017) rfl rfl rfl (hts _ (kx_m kw_53)) (hts _ (kx_m kw_1014)) (by decide +kernel) ⟨Nat.le_of_ble_eq_true rfl, Nat.le_of_ble_eq_true rfl⟩), (hts _ (kx_m kw_1016)), (hts _ (kx_m kw_34))⟩ (kx_preV (ci := 0) (q0 := 0) hK hN (hP.sub [0, 6] kt_17_0_6) (hD.sub [0, 6] (by decide) ks_17_0_6) rfl kg_2_0) rfl rfl hl.1 rfl (lv_room (Nat.le_of_ble_eq_true rfl)) dd_M_goOn_80 ⟨Nat.le_of_ble_eq_true rfl, Nat.le_of_ble_eq_true rfl⟩) hP hD hS hA [0, 6] [1, 2, 3, 4, 5, 7, 8, 9, 10, 11, 12, 13, 14, 15, 16] ks_17_0_6 ks_17_1_2_3_4_5_7_8_9_10_11_12_13_14_15_16 (by decide) (by decide) (fun r80 u80 H locs hw80 hP hD hS => ?_)
    have hP : va_P D vwCl [(a0, .inl (cI, 4097, .inl kd)), (a1, .inl (cI, 4097, .inl wd)), (a2, .inl (cI, 4097, .inl sr)), (a3, .inl (cI, 4097, .inl od)), (a4, .inl (cI, 4097, .inl sk)), (a6, .inl (cI, 258, .inl me)), (a7, .inl (cI, 8, .inl si)), (a8, .inl (cI, 402, .inl it)), (a9, .inl (cZ, 3216, .inl iz)), (a10, .inl (cJ, 3216, .inr (.inl ou))), (a11, .inl (cI, 3216, .inl ba)), (a12, .inl (cJ, 3216, .inr (.inl de))), (a13, .inl (cJ, 161604, .inr (.inl bc))), (a14, .inl (cJ, 6, .inr (.inl su))), (a15, .inl (cJ, 6, .inr (.inl ke))), (o, .inr (0, [.int (nI th), .int (nI cn), .ref a0, .ref a1, .ref a2, .ref a3, .ref a4, .ref a5, .int (nI mn), .ref a6, .ref a7, .int (nI ps), .int (nI bk), .ref a8, .ref a9, .ref a10, .ref a11, .ref a12, .ref a13, .ref a14, .ref a15, .int (nI kf), .int lb2_76, .int (nI lc2_76), .long lo2_76, .int (nI el), .int (nI ec), .long eo, .int eb, .long ed, .int (nI mp), .int (nI ml), .long md, .long mo, .int mb, .ref a16, .ref a17])), (a5, .inl (cI, 9, .inl ru))] H := hP
    have hD : va_D A [(a0, .inl (cI, 4097, .inl kd)), (a1, .inl (cI, 4097, .inl wd)), (a2, .inl (cI, 4097, .inl sr)), (a3, .inl (cI, 4097, .inl od)), (a4, .inl (cI, 4097, .inl sk)), (a6, .inl (cI, 258, .inl me)), (a7, .inl (cI, 8, .inl si)), (a8, .inl (cI, 402, .inl it)), (a9, .inl (cZ, 3216, .inl iz)), (a10, .inl (cJ, 3216, .inr (.inl ou))), (a11, .inl (cI, 3216, .inl ba)), (a12, .inl (cJ, 3216, .inr (.inl de))), (a13, .inl (cJ, 161604, .inr (.inl bc))), (a14, .inl (cJ, 6, .inr (.inl su))), (a15, .inl (cJ, 6, .inr (.inl ke))), (o, .inr (0, [.int (nI th), .int (nI cn), .ref a0, .ref a1, .ref a2, .ref a3, .ref a4, .ref a5, .int (nI mn), .ref a6, .ref a7, .int (nI ps), .int (nI bk), .ref a8, .ref a9, .ref a10, .ref a11, .ref a12, .ref a13, .ref a14, .ref a15, .int (nI kf), .int lb2_76, .int (nI lc2_76), .long lo2_76, .int (nI el), .int (nI ec), .long eo, .int eb, .long ed, .int (nI mp), .int (nI ml), .long md, .long mo, .int mb, .ref a16, .ref a17])), (a5, .inl (cI, 9, .inl ru))] := hD
    have hP : va_P D vwCl [(o, .inr (0, [.int (nI th), .int (nI cn), .ref a0, .ref a1, .ref a2, .ref a3, .ref a4, .ref a5, .int (nI mn), .ref a6, .ref a7, .int (nI ps), .int (nI bk), .ref a8, .ref a9, .ref a10, .ref a11, .ref a12, .ref a13, .ref a14, .ref a15, .int (nI kf), .int lb2_76, .int (nI lc2_76), .long lo2_76, .int (nI el), .int (nI ec), .long eo, .int eb, .long ed, .int (nI mp), .int (nI ml), .long md, .long mo, .int mb, .ref a16, .ref a17])), (a0, .inl (cI, 4097, .inl kd)), (a1, .inl (cI, 4097, .inl wd)), (a2, .inl (cI, 4097, .inl sr)), (a3, .inl (cI, 4097, .inl od)), (a4, .inl (cI, 4097, .inl sk)), (a5, .inl (cI, 9, .inl ru)), (a6, .inl (cI, 258, .inl me)), (a7, .inl (cI, 8, .inl si)), (a8, .inl (cI, 402, .inl it)), (a9, .inl (cZ, 3216, .inl iz)), (a10, .inl (cJ, 3216, .inr (.inl ou))), (a11, .inl (cI, 3216, .inl ba)), (a12, .inl (cJ, 3216, .inr (.inl de))), (a13, .inl (cJ, 161604, .inr (.inl bc))), (a14, .inl (cJ, 6, .inr (.inl su))), (a15, .inl (cJ, 6, .inr (.inl ke)))] H := hP.sub [15, 0, 1, 2, 3, 4, 16, 5, 6, 7, 8, 9, 10, 11, 12, 13, 14] kt_17_15_0_1_2_3_4_16_5_6_7_8_9_10_11_12_13_14
    have hD : va_D A [(o, .inr (0, [.int (nI th), .int (nI cn), .ref a0, .ref a1, .ref a2, .ref a3, .ref a4, .ref a5, .int (nI mn), .ref a6, .ref a7, .int (nI ps), .int (nI bk), .ref a8, .ref a9, .ref a10, .ref a11, .ref a12, .ref a13, .ref a14, .ref a15, .int (nI kf), .int lb2_76, .int (nI lc2_76), .long lo2_76, .int (nI el), .int (nI ec), .long eo, .int eb, .long ed, .int (nI mp), .int (nI ml), .long md, .long mo, .int mb, .ref a16, .ref a17])), (a0, .inl (cI, 4097, .inl kd)), (a1, .inl (cI, 4097, .inl wd)), (a2, .inl (cI, 4097, .inl sr)), (a3, .inl (cI, 4097, .inl od)), (a4, .inl (cI, 4097, .inl sk)), (a5, .inl (cI, 9, .inl ru)), (a6, .inl (cI, 258, .inl me)), (a7, .inl (cI, 8, .inl si)), (a8, .inl (cI, 402, .inl it)), (a9, .inl (cZ, 3216, .inl iz)), (a10, .inl (cJ, 3216, .inr (.inl ou))), (a11, .inl (cI, 3216, .inl ba)), (a12, .inl (cJ, 3216, .inr (.inl de))), (a13, .inl (cJ, 161604, .inr (.inl bc))), (a14, .inl (cJ, 6, .inr (.inl su))), (a15, .inl (cJ, 6, .inr (.inl ke)))] := hD.sub [15, 0, 1, 2, 3, 4, 16, 5, 6, 7, 8, 9, 10, 11, 12, 13, 14] (by decide) ks_17_15_0_1_2_3_4_16_5_6_7_8_9_10_11_12_13_14
    have hw80 : r80 = kb_p (ps = 3 ∨ (lo2_76 = 0 ∧ ¬ ru (ps - 1) < lb2_76)) := hw80
    subst hw80
    refine lv_if_ne (tgt := 87) hx hb dd_M_goOn_83 (by decide) (fun c83 => ?_) (fun c83 => ?_)
    · skip
      have c83 : ps = 3 ∨ (lo2_76 = 0 ∧ ¬ ru (ps - 1) < lb2_76) := kb_1.mp c83
      refine lv_iconst (v := nI 0) hx hb dd_M_goOn_87 (by decide) ?_
      refine lv_istore (lv' := [(5, .int (nI 0)), (4, .int (nI ((1608 * ((n + 1) % 2)) + (4 * i)))), (0, .ref o), (1, .int (nI i)), (2, .int (nI j)), (3, .int (nI n))]) hx hb dd_M_goOn_88 hl (by decide) rfl (fun ls hl => ?_)
      have lp90 : ∀ (N9_90 : Nat) (cx : Nat) (z1 : Nat → Int32) (o1 : Nat → Int64) (b1 : Nat → Int32) (d1 : Nat → Int64) (k1 : Nat → Int64), (4 - cx) < N9_90 → (cx ≤ 4) → (∀ x, x < 4 → pt_tb z1 o1 b1 d1 k1 n j x = pt_go ps (pl_C (pm_S (pm_wh kd od ik) su ke) si (if pm_hy kd cn b then (sr b).toInt64 else 0) (if pm_hy kd cn ik then (sk ik).toInt64 else 0) (me (pm_mi n mn))) (pm_ab (pl_B (pm_S (pm_wh kd od ik) su ke) si (if pm_hy kd cn b then (sr b).toInt64 else 0) (if pm_hy kd cn ik then (sk ik).toInt64 else 0) (me (pm_mi n mn))) (ru 1)) i (pl_O (pm_S (pm_wh kd od ik) su ke) si (if pm_hy kd cn b then (sr b).toInt64 else 0) (if pm_hy kd cn ik then (sk ik).toInt64 else 0) (me (pm_mi n mn))) (fun x => pm_cost ru (pl_B (pm_S (pm_wh kd od ik) su ke) si (if pm_hy kd cn b then (sr b).toInt64 else 0) (if pm_hy kd cn ik then (sk ik).toInt64 else 0) (me (pm_mi n mn))) (pm_pen kd wd od ru cn b) (pl_C (pm_S (pm_wh kd od ik) su ke) si (if pm_hy kd cn b then (sr b).toInt64 else 0) (if pm_hy kd cn ik then (sk ik).toInt64 else 0) (me (pm_mi n mn))) x (pm_hy kd cn b) (pm_hy kd cn ik) (b = cn)) (pt_pv iz ou ba de (1608 * ((n + 1) % 2) + 4 * i)) (pt_tb iz ou ba de bc n j) cx x) → (pt_fr j n iz ou ba de bc z1 o1 b1 d1 k1) → ∀ (H : Heap) (locs : List Loc), va_P D vwCl [(o, .inr (0, [.int (nI th), .int (nI cn), .ref a0, .ref a1, .ref a2, .ref a3, .ref a4, .ref a5, .int (nI mn), .ref a6, .ref a7, .int (nI ps), .int (nI bk), .ref a8, .ref a9, .ref a10, .ref a11, .ref a12, .ref a13, .ref a14, .ref a15, .int (nI kf), .int lb2_76, .int (nI lc2_76), .long lo2_76, .int (nI el), .int (nI ec), .long eo, .int eb, .long ed, .int (nI mp), .int (nI ml), .long md, .long mo, .int mb, .ref a16, .ref a17])), (a0, .inl (cI, 4097, .inl kd)), (a1, .inl (cI, 4097, .inl wd)), (a2, .inl (cI, 4097, .inl sr)), (a3, .inl (cI, 4097, .inl od)), (a4, .inl (cI, 4097, .inl sk)), (a5, .inl (cI, 9, .inl ru)), (a6, .inl (cI, 258, .inl me)), (a7, .inl (cI, 8, .inl si)), (a8, .inl (cI, 402, .inl it)), (a9, .inl (cZ, 3216, .inl z1)), (a10, .inl (cJ, 3216, .inr (.inl o1))), (a11, .inl (cI, 3216, .inl b1)), (a12, .inl (cJ, 3216, .inr (.inl d1))), (a13, .inl (cJ, 161604, .inr (.inl k1))), (a14, .inl (cJ, 6, .inr (.inl su))), (a15, .inl (cJ, 6, .inr (.inl ke)))] H → va_D A [(o, .inr (0, [.int (nI th), .int (nI cn), .ref a0, .ref a1, .ref a2, .ref a3, .ref a4, .ref a5, .int (nI mn), .ref a6, .ref a7, .int (nI ps), .int (nI bk), .ref a8, .ref a9, .ref a10, .ref a11, .ref a12, .ref a13, .ref a14, .ref a15, .int (nI kf), .int lb2_76, .int (nI lc2_76), .long lo2_76, .int (nI el), .int (nI ec), .long eo, .int eb, .long ed, .int (nI mp), .int (nI ml), .long md, .long mo, .int mb, .ref a16, .ref a17])), (a0, .inl (cI, 4097, .inl kd)), (a1, .inl (cI, 4097, .inl wd)), (a2, .inl (cI, 4097, .inl sr)), (a3, .inl (cI, 4097, .inl od)), (a4, .inl (cI, 4097, .inl sk)), (a5, .inl (cI, 9, .inl ru)), (a6, .inl (cI, 258, .inl me)), (a7, .inl (cI, 8, .inl si)), (a8, .inl (cI, 402, .inl it)), (a9, .inl (cZ, 3216, .inl z1)), (a10, .inl (cJ, 3216, .inr (.inl o1))), (a11, .inl (cI, 3216, .inl b1)), (a12, .inl (cJ, 3216, .inr (.inl d1))), (a13, .inl (cJ, 161604, .inr (.inl k1))), (a14, .inl (cJ, 6, .inr (.inl su))), (a15, .inl (cJ, 6, .inr (.inl ke)))] → va_S A s.heap H locs → ∀ (ls : Array Slot), lv_has ls 6 [(0, .ref o), (1, .int (nI i)), (2, .int (nI j)), (3, .int (nI n)), (4, .int (nI (1608 * ((n + 1) % 2) + 4 * i))), (5, .int (nI cx))] → W p l e (headSpec ww_M_goOn { frames := 2, cells := 0, slots := 0, locals := 60 }).room s m ([.ref o, .int (nI i), .int (nI j), .int (nI n)] : List Value).toArray below meth c H locs 0 0 Q (F0 m 90 ls []) := by
        clear hP hD hS hl
        intro N9_90
        induction N9_90 with
        | zero => intro _ _ _ _ _ _ h9; exact absurd h9 (Nat.not_lt_zero _)
        | succ N9_90 ih_90 =>
          intro cx z1 o1 b1 d1 k1 hμ_90 hc4 hT hF H locs hP hD hS ls hl
          refine lv_iload hx hb dd_M_goOn_90 (lv_at hl 5 rfl) ?_
          refine lv_iconst (v := nI 4) hx hb dd_M_goOn_92 (by decide) ?_
          refine lv_icmp_ge (tgt := 188) hx hb dd_M_goOn_93 (by decide) (fun c93 => ?_) (fun c93 => ?_)
          · skip
            have c93 : 4 ≤ cx := (nI_leI (by omega) (by omega)).mp c93
            rw [hQ]
            exact kx_vret hx hb hr hlocks hK hN hS dd_M_goOn_188 (z1, o1, b1, d1, k1, lb2_76, lc2_76, lo2_76) hP hD (⟨fun x hx => by rw [if_pos (by rw [← eB, ← eO]; exact c83)]; rw [hT x hx, show cx = 4 by omega], hF⟩)
          · skip
            have c93 : ¬ (4 ≤ cx) := fun h => c93 ((nI_leI (by omega) (by omega)).mpr h)
            have hpv : z1 (1608 * ((n + 1) % 2) + 4 * i + cx) = iz (1608 * ((n + 1) % 2) + 4 * i + cx) ∧ o1 (1608 * ((n + 1) % 2) + 4 * i + cx) = ou (1608 * ((n + 1) % 2) + 4 * i + cx) ∧ b1 (1608 * ((n + 1) % 2) + 4 * i + cx) = ba (1608 * ((n + 1) % 2) + 4 * i + cx) ∧ d1 (1608 * ((n + 1) % 2) + 4 * i + cx) = de (1608 * ((n + 1) % 2) + 4 * i + cx) := hF.1 _ (fun x hx => by unfold pm_at; omega)
            refine lv_aload_n hx hb dd_M_goOn_96 rfl (lv_at hl 0 rfl) ?_
            refine va_get (D := D) (ci := 0) (v := .ref a9) (C := rr_M) (T := tt_M) (N := 37) hx hb hts hin0 hown hK hP 0 kg_17_0 rfl 14 (by decide) lk0 (fun _ h9 => h9) rfl dd_M_goOn_97 ?_
            refine lv_iload hx hb dd_M_goOn_100 (lv_at hl 4 rfl) ?_
            refine lv_iload hx hb dd_M_goOn_102 (lv_at hl 5 rfl) ?_
            refine kx_iadd hx hb dd_M_goOn_104 ?_
            refine kx_zald (q0 := 10) (t0 := 2) hx hb dd_M_goOn_105 hK hP kg_17_10 rfl (by omega) (by omega) ?_
            refine lv_if_eq (tgt := 182) hx hb dd_M_goOn_106 (by decide) (fun c106 => ?_) (fun c106 => ?_)
            · skip
              have hpn : pt_pv iz ou ba de (1608 * ((n + 1) % 2) + 4 * i) cx = none := by unfold pt_pv; rw [← hpv.1]; exact if_pos c106
              refine lv_iinc (v := nI (cx + 1)) (lv' := [(5, .int (nI (cx + 1))), (0, .ref o), (1, .int (nI i)), (2, .int (nI j)), (3, .int (nI n)), (4, .int (nI (1608 * ((n + 1) % 2) + 4 * i)))]) hx hb dd_M_goOn_182 hl (k := 5) rfl (nI_add cx 1) (by decide) rfl (fun ls hl => ?_)
              refine lv_goto (tgt := 90) hx hb dd_M_goOn_185 (by decide) ?_
              exact ih_90 (cx + 1) z1 o1 b1 d1 k1 (by omega) (by omega) (by first | exact fun x hx => (hT x hx).trans (congrFun (pt_go_n hpn).symm x) | exact fun x hx => (hq.1 x hx).trans (by rw [hT x hx, pt_go_s hps, eB, eC, eO])) (by first | exact hF | exact pt_fr_tr hF hq.2) H locs hP hD hS ls (lv_sub hl [1, 2, 3, 4, 5, 0] rfl)
            · skip
              have hps : pt_pv iz ou ba de (1608 * ((n + 1) % 2) + 4 * i) cx = some (o1 (1608 * ((n + 1) % 2) + 4 * i + cx), b1 (1608 * ((n + 1) % 2) + 4 * i + cx), d1 (1608 * ((n + 1) % 2) + 4 * i + cx)) := by unfold pt_pv; rw [← hpv.1, ← hpv.2.1, ← hpv.2.2.1, ← hpv.2.2.2]; exact if_neg c106
              refine lv_aload_n hx hb dd_M_goOn_109 rfl (lv_at hl 0 rfl) ?_
              refine lv_iload_n hx hb dd_M_goOn_110 rfl (lv_at hl 2 rfl) ?_
              refine lv_iload_n hx hb dd_M_goOn_111 rfl (lv_at hl 3 rfl) ?_
              refine lv_aload_n hx hb dd_M_goOn_112 rfl (lv_at hl 0 rfl) ?_
              refine va_get (D := D) (ci := 0) (v := .ref a10) (C := rr_M) (T := tt_M) (N := 37) hx hb hts hin0 hown hK hP 0 kg_17_0 rfl 15 (by decide) lk3 (fun _ h9 => h9) rfl dd_M_goOn_113 ?_
              refine lv_iload hx hb dd_M_goOn_116 (lv_at hl 4 rfl) ?_
              refine lv_iload hx hb dd_M_goOn_118 (lv_at hl 5 rfl) ?_
              refine kx_iadd hx hb dd_M_goOn_120 ?_
              refine kx_lald (q0 := 11) (t0 := 1) hx hb dd_M_goOn_121 hK hP kg_17_11 rfl (by omega) (by omega) ?_
              refine lv_aload_n hx hb dd_M_goOn_122 rfl (lv_at hl 0 rfl) ?_
              refine va_get (D := D) (ci := 0) (v := .long lo2_76) (C := rr_M) (T := tt_M) (N := 37) hx hb hts hin0 hown hK hP 0 kg_17_0 rfl 24 (by decide) lk4 (fun _ h9 => h9) rfl dd_M_goOn_123 ?_
              refine lv_ladd hx hb dd_M_goOn_126 ?_
              refine lv_aload_n hx hb dd_M_goOn_127 rfl (lv_at hl 0 rfl) ?_
              refine va_get (D := D) (ci := 0) (v := .ref a11) (C := rr_M) (T := tt_M) (N := 37) hx hb hts hin0 hown hK hP 0 kg_17_0 rfl 16 (by decide) lk5 (fun _ h9 => h9) rfl dd_M_goOn_128 ?_
              refine lv_iload hx hb dd_M_goOn_131 (lv_at hl 4 rfl) ?_
              refine lv_iload hx hb dd_M_goOn_133 (lv_at hl 5 rfl) ?_
              refine kx_iadd hx hb dd_M_goOn_135 ?_
              refine kx_iald (q0 := 12) (t0 := 0) hx hb dd_M_goOn_136 hK hP kg_17_12 rfl (by omega) (by omega) ?_
              refine lv_aload_n hx hb dd_M_goOn_137 rfl (lv_at hl 0 rfl) ?_
              refine kx_calli (wr := [(a0, .inl (cI, 4097, .inl kd)), (a1, .inl (cI, 4097, .inl wd)), (a2, .inl (cI, 4097, .inl sr)), (a3, .inl (cI, 4097, .inl od)), (a4, .inl (cI, 4097, .inl sk)), (a6, .inl (cI, 258, .inl me)), (a7, .inl (cI, 8, .inl si)), (a8, .inl (cI, 402, .inl it)), (a9, .inl (cZ, 3216, .inl z1)), (a10, .inl (cJ, 3216, .inr (.inl o1))), (a11, .inl (cI, 3216, .inl b1)), (a12, .inl (cJ, 3216, .inr (.inl d1))), (a13, .inl (cJ, 161604, .inr (.inl k1))), (a14, .inl (cJ, 6, .inr (.inl su))), (a15, .inl (cJ, 6, .inr (.inl ke)))]) (va_runV (C := rr_M) (As := []) (rest := [.int (b1 ((1608 * ((n + 1) % 2) + 4 * i) + cx)), .long ((o1 ((1608 * ((n + 1) % 2) + 4 * i) + cx)) + lo2_76), .int (nI n), .int (nI j), .ref o]) ⟨hx, hb, hml, hown, hts⟩ (ct_M_above l D cI cJ cZ H.size o th cn a0 a1 a2 a3 a4 a5 mn a6 a7 ps bk a8 a9 a10 a11 a12 a13 a14 a15 kf lb2_76 lc2_76 lo2_76 el ec eo eb ed mp ml md mo mb a16 a17 ru) ⟨(callB_of 0 hts (kx_good kw_1021) rfl rfl rfl (hts _ (kx_m kw_53)) (hts _ (kx_m kw_1018)) (by decide +kernel) ⟨Nat.le_of_ble_eq_true rfl, Nat.le_of_ble_eq_true rfl⟩), (hts _ (kx_m kw_1020)), (hts _ (kx_m kw_35))⟩ (kx_preV (ci := 0) (q0 := 0) hK hN (hP.sub [0, 6] kt_17_0_6) (hD.sub [0, 6] (by decide) ks_17_0_6) rfl kg_2_0) rfl rfl hl.1 rfl (lv_room (Nat.le_of_ble_eq_true rfl)) dd_M_goOn_138 ⟨Nat.le_of_ble_eq_true rfl, Nat.le_of_ble_eq_true rfl⟩) hP hD hS hA [0, 6] [1, 2, 3, 4, 5, 7, 8, 9, 10, 11, 12, 13, 14, 15, 16] ks_17_0_6 ks_17_1_2_3_4_5_7_8_9_10_11_12_13_14_15_16 (by decide) (by decide) (fun r138 u138 H locs hw138 hP hD hS => ?_)
              have hP : va_P D vwCl [(a0, .inl (cI, 4097, .inl kd)), (a1, .inl (cI, 4097, .inl wd)), (a2, .inl (cI, 4097, .inl sr)), (a3, .inl (cI, 4097, .inl od)), (a4, .inl (cI, 4097, .inl sk)), (a6, .inl (cI, 258, .inl me)), (a7, .inl (cI, 8, .inl si)), (a8, .inl (cI, 402, .inl it)), (a9, .inl (cZ, 3216, .inl z1)), (a10, .inl (cJ, 3216, .inr (.inl o1))), (a11, .inl (cI, 3216, .inl b1)), (a12, .inl (cJ, 3216, .inr (.inl d1))), (a13, .inl (cJ, 161604, .inr (.inl k1))), (a14, .inl (cJ, 6, .inr (.inl su))), (a15, .inl (cJ, 6, .inr (.inl ke))), (o, .inr (0, [.int (nI th), .int (nI cn), .ref a0, .ref a1, .ref a2, .ref a3, .ref a4, .ref a5, .int (nI mn), .ref a6, .ref a7, .int (nI ps), .int (nI bk), .ref a8, .ref a9, .ref a10, .ref a11, .ref a12, .ref a13, .ref a14, .ref a15, .int (nI kf), .int lb2_76, .int (nI lc2_76), .long lo2_76, .int (nI el), .int (nI ec), .long eo, .int eb, .long ed, .int (nI mp), .int (nI ml), .long md, .long mo, .int mb, .ref a16, .ref a17])), (a5, .inl (cI, 9, .inl ru))] H := hP
              have hD : va_D A [(a0, .inl (cI, 4097, .inl kd)), (a1, .inl (cI, 4097, .inl wd)), (a2, .inl (cI, 4097, .inl sr)), (a3, .inl (cI, 4097, .inl od)), (a4, .inl (cI, 4097, .inl sk)), (a6, .inl (cI, 258, .inl me)), (a7, .inl (cI, 8, .inl si)), (a8, .inl (cI, 402, .inl it)), (a9, .inl (cZ, 3216, .inl z1)), (a10, .inl (cJ, 3216, .inr (.inl o1))), (a11, .inl (cI, 3216, .inl b1)), (a12, .inl (cJ, 3216, .inr (.inl d1))), (a13, .inl (cJ, 161604, .inr (.inl k1))), (a14, .inl (cJ, 6, .inr (.inl su))), (a15, .inl (cJ, 6, .inr (.inl ke))), (o, .inr (0, [.int (nI th), .int (nI cn), .ref a0, .ref a1, .ref a2, .ref a3, .ref a4, .ref a5, .int (nI mn), .ref a6, .ref a7, .int (nI ps), .int (nI bk), .ref a8, .ref a9, .ref a10, .ref a11, .ref a12, .ref a13, .ref a14, .ref a15, .int (nI kf), .int lb2_76, .int (nI lc2_76), .long lo2_76, .int (nI el), .int (nI ec), .long eo, .int eb, .long ed, .int (nI mp), .int (nI ml), .long md, .long mo, .int mb, .ref a16, .ref a17])), (a5, .inl (cI, 9, .inl ru))] := hD
              have hP : va_P D vwCl [(o, .inr (0, [.int (nI th), .int (nI cn), .ref a0, .ref a1, .ref a2, .ref a3, .ref a4, .ref a5, .int (nI mn), .ref a6, .ref a7, .int (nI ps), .int (nI bk), .ref a8, .ref a9, .ref a10, .ref a11, .ref a12, .ref a13, .ref a14, .ref a15, .int (nI kf), .int lb2_76, .int (nI lc2_76), .long lo2_76, .int (nI el), .int (nI ec), .long eo, .int eb, .long ed, .int (nI mp), .int (nI ml), .long md, .long mo, .int mb, .ref a16, .ref a17])), (a0, .inl (cI, 4097, .inl kd)), (a1, .inl (cI, 4097, .inl wd)), (a2, .inl (cI, 4097, .inl sr)), (a3, .inl (cI, 4097, .inl od)), (a4, .inl (cI, 4097, .inl sk)), (a5, .inl (cI, 9, .inl ru)), (a6, .inl (cI, 258, .inl me)), (a7, .inl (cI, 8, .inl si)), (a8, .inl (cI, 402, .inl it)), (a9, .inl (cZ, 3216, .inl z1)), (a10, .inl (cJ, 3216, .inr (.inl o1))), (a11, .inl (cI, 3216, .inl b1)), (a12, .inl (cJ, 3216, .inr (.inl d1))), (a13, .inl (cJ, 161604, .inr (.inl k1))), (a14, .inl (cJ, 6, .inr (.inl su))), (a15, .inl (cJ, 6, .inr (.inl ke)))] H := hP.sub [15, 0, 1, 2, 3, 4, 16, 5, 6, 7, 8, 9, 10, 11, 12, 13, 14] kt_17_15_0_1_2_3_4_16_5_6_7_8_9_10_11_12_13_14
              have hD : va_D A [(o, .inr (0, [.int (nI th), .int (nI cn), .ref a0, .ref a1, .ref a2, .ref a3, .ref a4, .ref a5, .int (nI mn), .ref a6, .ref a7, .int (nI ps), .int (nI bk), .ref a8, .ref a9, .ref a10, .ref a11, .ref a12, .ref a13, .ref a14, .ref a15, .int (nI kf), .int lb2_76, .int (nI lc2_76), .long lo2_76, .int (nI el), .int (nI ec), .long eo, .int eb, .long ed, .int (nI mp), .int (nI ml), .long md, .long mo, .int mb, .ref a16, .ref a17])), (a0, .inl (cI, 4097, .inl kd)), (a1, .inl (cI, 4097, .inl wd)), (a2, .inl (cI, 4097, .inl sr)), (a3, .inl (cI, 4097, .inl od)), (a4, .inl (cI, 4097, .inl sk)), (a5, .inl (cI, 9, .inl ru)), (a6, .inl (cI, 258, .inl me)), (a7, .inl (cI, 8, .inl si)), (a8, .inl (cI, 402, .inl it)), (a9, .inl (cZ, 3216, .inl z1)), (a10, .inl (cJ, 3216, .inr (.inl o1))), (a11, .inl (cI, 3216, .inl b1)), (a12, .inl (cJ, 3216, .inr (.inl d1))), (a13, .inl (cJ, 161604, .inr (.inl k1))), (a14, .inl (cJ, 6, .inr (.inl su))), (a15, .inl (cJ, 6, .inr (.inl ke)))] := hD.sub [15, 0, 1, 2, 3, 4, 16, 5, 6, 7, 8, 9, 10, 11, 12, 13, 14] (by decide) ks_17_15_0_1_2_3_4_16_5_6_7_8_9_10_11_12_13_14
              have hw138 : r138 = nI (pm_ab lb2_76 (ru 1)) := hw138
              subst hw138
              refine lv_iadd hx hb dd_M_goOn_141 ?_
              refine lv_aload_n hx hb dd_M_goOn_142 rfl (lv_at hl 0 rfl) ?_
              refine va_get (D := D) (ci := 0) (v := .ref a12) (C := rr_M) (T := tt_M) (N := 37) hx hb hts hin0 hown hK hP 0 kg_17_0 rfl 17 (by decide) lk6 (fun _ h9 => h9) rfl dd_M_goOn_143 ?_
              refine lv_iload hx hb dd_M_goOn_146 (lv_at hl 4 rfl) ?_
              refine lv_iload hx hb dd_M_goOn_148 (lv_at hl 5 rfl) ?_
              refine kx_iadd hx hb dd_M_goOn_150 ?_
              refine kx_lald (q0 := 13) (t0 := 1) hx hb dd_M_goOn_151 hK hP kg_17_13 rfl (by omega) (by omega) ?_
              refine lv_aload_n hx hb dd_M_goOn_152 rfl (lv_at hl 0 rfl) ?_
              refine lv_aload_n hx hb dd_M_goOn_153 rfl (lv_at hl 0 rfl) ?_
              refine va_get (D := D) (ci := 0) (v := .ref a8) (C := rr_M) (T := tt_M) (N := 37) hx hb hts hin0 hown hK hP 0 kg_17_0 rfl 13 (by decide) lk2 (fun _ h9 => h9) rfl dd_M_goOn_154 ?_
              refine lv_iload_n hx hb dd_M_goOn_157 rfl (lv_at hl 1 rfl) ?_
              refine kx_iald (q0 := 9) (t0 := 0) hx hb dd_M_goOn_158 hK hP kg_17_9 rfl (by omega) (by omega) ?_
              refine kx_toN (n := ik) (hik) ?_
              refine lv_aload_n hx hb dd_M_goOn_159 rfl (lv_at hl 0 rfl) ?_
              refine va_get (D := D) (ci := 0) (v := .ref a8) (C := rr_M) (T := tt_M) (N := 37) hx hb hts hin0 hown hK hP 0 kg_17_0 rfl 13 (by decide) lk2 (fun _ h9 => h9) rfl dd_M_goOn_160 ?_
              refine lv_iload_n hx hb dd_M_goOn_163 rfl (lv_at hl 2 rfl) ?_
              refine kx_iald (q0 := 9) (t0 := 0) hx hb dd_M_goOn_164 hK hP kg_17_9 rfl (by omega) (by omega) ?_
              refine kx_toN (n := b) (hbk) ?_
              refine lv_iload hx hb dd_M_goOn_165 (lv_at hl 5 rfl) ?_
              refine kx_calll (wr := [(a2, .inl (cI, 4097, .inl sr)), (a4, .inl (cI, 4097, .inl sk)), (a6, .inl (cI, 258, .inl me)), (a7, .inl (cI, 8, .inl si)), (a8, .inl (cI, 402, .inl it)), (a9, .inl (cZ, 3216, .inl z1)), (a10, .inl (cJ, 3216, .inr (.inl o1))), (a11, .inl (cI, 3216, .inl b1)), (a12, .inl (cJ, 3216, .inr (.inl d1))), (a13, .inl (cJ, 161604, .inr (.inl k1))), (a14, .inl (cJ, 6, .inr (.inl su))), (a15, .inl (cJ, 6, .inr (.inl ke)))]) (va_runV (C := rr_M) (As := [.int (nI ik), .int (nI b), .int (nI cx)]) (rest := [.long (d1 ((1608 * ((n + 1) % 2) + 4 * i) + cx)), .int ((b1 ((1608 * ((n + 1) % 2) + 4 * i) + cx)) + (nI (pm_ab lb2_76 (ru 1)))), .long ((o1 ((1608 * ((n + 1) % 2) + 4 * i) + cx)) + lo2_76), .int (nI n), .int (nI j), .ref o]) ⟨hx, hb, hml, hown, hts⟩ (ct_M_cost l D cI cJ cZ H.size o th cn a0 a1 a2 a3 a4 a5 mn a6 a7 ps bk a8 a9 a10 a11 a12 a13 a14 a15 kf lb2_76 lc2_76 lo2_76 el ec eo eb ed mp ml md mo mb a16 a17 kd wd od ru ik b cx (by omega) (by omega) (by omega)) ⟨(callB_of 3 hts (kx_good kw_1025) rfl rfl rfl (hts _ (kx_m kw_53)) (hts _ (kx_m kw_1022)) (by decide +kernel) ⟨Nat.le_of_ble_eq_true rfl, Nat.le_of_ble_eq_true rfl⟩), (hts _ (kx_m kw_1024)), (hts _ (kx_m kw_36))⟩ (kx_preV (ci := 0) (q0 := 0) hK hN (hP.sub [0, 1, 2, 4, 6] kt_17_0_1_2_4_6) (hD.sub [0, 1, 2, 4, 6] (by decide) ks_17_0_1_2_4_6) rfl kg_5_0) rfl rfl hl.1 rfl (lv_room (Nat.le_of_ble_eq_true rfl)) dd_M_goOn_167 ⟨Nat.le_of_ble_eq_true rfl, Nat.le_of_ble_eq_true rfl⟩) hP hD hS hA [0, 1, 2, 4, 6] [3, 5, 7, 8, 9, 10, 11, 12, 13, 14, 15, 16] ks_17_0_1_2_4_6 ks_17_3_5_7_8_9_10_11_12_13_14_15_16 (by decide) (by decide) (fun r167 u167 H locs hw167 hP hD hS => ?_)
              have hP : va_P D vwCl [(a2, .inl (cI, 4097, .inl sr)), (a4, .inl (cI, 4097, .inl sk)), (a6, .inl (cI, 258, .inl me)), (a7, .inl (cI, 8, .inl si)), (a8, .inl (cI, 402, .inl it)), (a9, .inl (cZ, 3216, .inl z1)), (a10, .inl (cJ, 3216, .inr (.inl o1))), (a11, .inl (cI, 3216, .inl b1)), (a12, .inl (cJ, 3216, .inr (.inl d1))), (a13, .inl (cJ, 161604, .inr (.inl k1))), (a14, .inl (cJ, 6, .inr (.inl su))), (a15, .inl (cJ, 6, .inr (.inl ke))), (o, .inr (0, [.int (nI th), .int (nI cn), .ref a0, .ref a1, .ref a2, .ref a3, .ref a4, .ref a5, .int (nI mn), .ref a6, .ref a7, .int (nI ps), .int (nI bk), .ref a8, .ref a9, .ref a10, .ref a11, .ref a12, .ref a13, .ref a14, .ref a15, .int (nI kf), .int lb2_76, .int (nI lc2_76), .long lo2_76, .int (nI el), .int (nI ec), .long eo, .int eb, .long ed, .int (nI mp), .int (nI ml), .long md, .long mo, .int mb, .ref a16, .ref a17])), (a0, .inl (cI, 4097, .inl kd)), (a1, .inl (cI, 4097, .inl wd)), (a3, .inl (cI, 4097, .inl od)), (a5, .inl (cI, 9, .inl ru))] H := hP
              have hD : va_D A [(a2, .inl (cI, 4097, .inl sr)), (a4, .inl (cI, 4097, .inl sk)), (a6, .inl (cI, 258, .inl me)), (a7, .inl (cI, 8, .inl si)), (a8, .inl (cI, 402, .inl it)), (a9, .inl (cZ, 3216, .inl z1)), (a10, .inl (cJ, 3216, .inr (.inl o1))), (a11, .inl (cI, 3216, .inl b1)), (a12, .inl (cJ, 3216, .inr (.inl d1))), (a13, .inl (cJ, 161604, .inr (.inl k1))), (a14, .inl (cJ, 6, .inr (.inl su))), (a15, .inl (cJ, 6, .inr (.inl ke))), (o, .inr (0, [.int (nI th), .int (nI cn), .ref a0, .ref a1, .ref a2, .ref a3, .ref a4, .ref a5, .int (nI mn), .ref a6, .ref a7, .int (nI ps), .int (nI bk), .ref a8, .ref a9, .ref a10, .ref a11, .ref a12, .ref a13, .ref a14, .ref a15, .int (nI kf), .int lb2_76, .int (nI lc2_76), .long lo2_76, .int (nI el), .int (nI ec), .long eo, .int eb, .long ed, .int (nI mp), .int (nI ml), .long md, .long mo, .int mb, .ref a16, .ref a17])), (a0, .inl (cI, 4097, .inl kd)), (a1, .inl (cI, 4097, .inl wd)), (a3, .inl (cI, 4097, .inl od)), (a5, .inl (cI, 9, .inl ru))] := hD
              have hP : va_P D vwCl [(o, .inr (0, [.int (nI th), .int (nI cn), .ref a0, .ref a1, .ref a2, .ref a3, .ref a4, .ref a5, .int (nI mn), .ref a6, .ref a7, .int (nI ps), .int (nI bk), .ref a8, .ref a9, .ref a10, .ref a11, .ref a12, .ref a13, .ref a14, .ref a15, .int (nI kf), .int lb2_76, .int (nI lc2_76), .long lo2_76, .int (nI el), .int (nI ec), .long eo, .int eb, .long ed, .int (nI mp), .int (nI ml), .long md, .long mo, .int mb, .ref a16, .ref a17])), (a0, .inl (cI, 4097, .inl kd)), (a1, .inl (cI, 4097, .inl wd)), (a2, .inl (cI, 4097, .inl sr)), (a3, .inl (cI, 4097, .inl od)), (a4, .inl (cI, 4097, .inl sk)), (a5, .inl (cI, 9, .inl ru)), (a6, .inl (cI, 258, .inl me)), (a7, .inl (cI, 8, .inl si)), (a8, .inl (cI, 402, .inl it)), (a9, .inl (cZ, 3216, .inl z1)), (a10, .inl (cJ, 3216, .inr (.inl o1))), (a11, .inl (cI, 3216, .inl b1)), (a12, .inl (cJ, 3216, .inr (.inl d1))), (a13, .inl (cJ, 161604, .inr (.inl k1))), (a14, .inl (cJ, 6, .inr (.inl su))), (a15, .inl (cJ, 6, .inr (.inl ke)))] H := hP.sub [12, 13, 14, 0, 15, 1, 16, 2, 3, 4, 5, 6, 7, 8, 9, 10, 11] kt_17_12_13_14_0_15_1_16_2_3_4_5_6_7_8_9_10_11
              have hD : va_D A [(o, .inr (0, [.int (nI th), .int (nI cn), .ref a0, .ref a1, .ref a2, .ref a3, .ref a4, .ref a5, .int (nI mn), .ref a6, .ref a7, .int (nI ps), .int (nI bk), .ref a8, .ref a9, .ref a10, .ref a11, .ref a12, .ref a13, .ref a14, .ref a15, .int (nI kf), .int lb2_76, .int (nI lc2_76), .long lo2_76, .int (nI el), .int (nI ec), .long eo, .int eb, .long ed, .int (nI mp), .int (nI ml), .long md, .long mo, .int mb, .ref a16, .ref a17])), (a0, .inl (cI, 4097, .inl kd)), (a1, .inl (cI, 4097, .inl wd)), (a2, .inl (cI, 4097, .inl sr)), (a3, .inl (cI, 4097, .inl od)), (a4, .inl (cI, 4097, .inl sk)), (a5, .inl (cI, 9, .inl ru)), (a6, .inl (cI, 258, .inl me)), (a7, .inl (cI, 8, .inl si)), (a8, .inl (cI, 402, .inl it)), (a9, .inl (cZ, 3216, .inl z1)), (a10, .inl (cJ, 3216, .inr (.inl o1))), (a11, .inl (cI, 3216, .inl b1)), (a12, .inl (cJ, 3216, .inr (.inl d1))), (a13, .inl (cJ, 161604, .inr (.inl k1))), (a14, .inl (cJ, 6, .inr (.inl su))), (a15, .inl (cJ, 6, .inr (.inl ke)))] := hD.sub [12, 13, 14, 0, 15, 1, 16, 2, 3, 4, 5, 6, 7, 8, 9, 10, 11] (by decide) ks_17_12_13_14_0_15_1_16_2_3_4_5_6_7_8_9_10_11
              have hw167 : r167 = pm_cost ru lb2_76 (pm_pen kd wd od ru cn b) lc2_76 cx (pm_hy kd cn b) (pm_hy kd cn ik) (b = cn) := hw167
              subst hw167
              refine lv_ladd hx hb dd_M_goOn_170 ?_
              refine lv_iconst (v := nI 4) hx hb dd_M_goOn_171 (by decide) ?_
              refine lv_iload_n hx hb dd_M_goOn_172 rfl (lv_at hl 1 rfl) ?_
              refine kx_imul hx hb dd_M_goOn_173 ?_
              refine lv_iload hx hb dd_M_goOn_174 (lv_at hl 5 rfl) ?_
              refine kx_iadd hx hb dd_M_goOn_176 ?_
              refine lv_iconst (v := nI 1) hx hb dd_M_goOn_177 (by decide) ?_
              refine kx_iadd hx hb dd_M_goOn_178 ?_
              refine kx_callv (wr := [(a0, .inl (cI, 4097, .inl kd)), (a1, .inl (cI, 4097, .inl wd)), (a2, .inl (cI, 4097, .inl sr)), (a3, .inl (cI, 4097, .inl od)), (a4, .inl (cI, 4097, .inl sk)), (a5, .inl (cI, 9, .inl ru)), (a6, .inl (cI, 258, .inl me)), (a7, .inl (cI, 8, .inl si)), (a8, .inl (cI, 402, .inl it)), (a14, .inl (cJ, 6, .inr (.inl su))), (a15, .inl (cJ, 6, .inr (.inl ke)))]) (va_runV (C := rr_M) (As := [.int (nI j), .int (nI n), .long ((o1 ((1608 * ((n + 1) % 2) + 4 * i) + cx)) + lo2_76), .int ((b1 ((1608 * ((n + 1) % 2) + 4 * i) + cx)) + (nI (pm_ab lb2_76 (ru 1)))), .long ((d1 ((1608 * ((n + 1) % 2) + 4 * i) + cx)) + (pm_cost ru lb2_76 (pm_pen kd wd od ru cn b) lc2_76 cx (pm_hy kd cn b) (pm_hy kd cn ik) (b = cn))), .int (nI (((4 * i) + cx) + 1))]) (rest := []) ⟨hx, hb, hml, hown, hts⟩ (ct_M_keep l D cI cJ cZ H.size o th cn a0 a1 a2 a3 a4 a5 mn a6 a7 ps bk a8 a9 a10 a11 a12 a13 a14 a15 kf lb2_76 lc2_76 lo2_76 el ec eo eb ed mp ml md mo mb a16 a17 z1 o1 b1 d1 k1 j n ((o1 ((1608 * ((n + 1) % 2) + 4 * i) + cx)) + lo2_76) ((b1 ((1608 * ((n + 1) % 2) + 4 * i) + cx)) + (nI (pm_ab lb2_76 (ru 1)))) ((d1 ((1608 * ((n + 1) % 2) + 4 * i) + cx)) + (pm_cost ru lb2_76 (pm_pen kd wd od ru cn b) lc2_76 cx (pm_hy kd cn b) (pm_hy kd cn ik) (b = cn))) (((4 * i) + cx) + 1) (by omega) (by omega) (by omega) (by omega) (by omega)) ⟨(callB_of 6 hts (kx_good kw_1034) rfl rfl rfl (hts _ (kx_m kw_53)) (hts _ (kx_m kw_1031)) (by decide +kernel) ⟨Nat.le_of_ble_eq_true rfl, Nat.le_of_ble_eq_true rfl⟩), (hts _ (kx_m kw_1033)), (hts _ (kx_m kw_38))⟩ (kx_preV (ci := 0) (q0 := 0) hK hN (hP.sub [0, 10, 11, 12, 13, 14] kt_17_0_10_11_12_13_14) (hD.sub [0, 10, 11, 12, 13, 14] (by decide) ks_17_0_10_11_12_13_14) rfl kg_6_0) rfl rfl hl.1 rfl (lv_room (Nat.le_of_ble_eq_true rfl)) dd_M_goOn_179 ⟨Nat.le_of_ble_eq_true rfl, Nat.le_of_ble_eq_true rfl⟩) hP hD hS hA [0, 10, 11, 12, 13, 14] [1, 2, 3, 4, 5, 6, 7, 8, 9, 15, 16] ks_17_0_10_11_12_13_14 ks_17_1_2_3_4_5_6_7_8_9_15_16 (by decide) (by decide) (fun u179 H locs hw179 hP hD hS => ?_)
              obtain ⟨iz2_179, ou2_179, ba2_179, de2_179, bc2_179⟩ := u179
              have hP : va_P D vwCl [(a0, .inl (cI, 4097, .inl kd)), (a1, .inl (cI, 4097, .inl wd)), (a2, .inl (cI, 4097, .inl sr)), (a3, .inl (cI, 4097, .inl od)), (a4, .inl (cI, 4097, .inl sk)), (a5, .inl (cI, 9, .inl ru)), (a6, .inl (cI, 258, .inl me)), (a7, .inl (cI, 8, .inl si)), (a8, .inl (cI, 402, .inl it)), (a14, .inl (cJ, 6, .inr (.inl su))), (a15, .inl (cJ, 6, .inr (.inl ke))), (o, .inr (0, [.int (nI th), .int (nI cn), .ref a0, .ref a1, .ref a2, .ref a3, .ref a4, .ref a5, .int (nI mn), .ref a6, .ref a7, .int (nI ps), .int (nI bk), .ref a8, .ref a9, .ref a10, .ref a11, .ref a12, .ref a13, .ref a14, .ref a15, .int (nI kf), .int lb2_76, .int (nI lc2_76), .long lo2_76, .int (nI el), .int (nI ec), .long eo, .int eb, .long ed, .int (nI mp), .int (nI ml), .long md, .long mo, .int mb, .ref a16, .ref a17])), (a9, .inl (cZ, 3216, .inl iz2_179)), (a10, .inl (cJ, 3216, .inr (.inl ou2_179))), (a11, .inl (cI, 3216, .inl ba2_179)), (a12, .inl (cJ, 3216, .inr (.inl de2_179))), (a13, .inl (cJ, 161604, .inr (.inl bc2_179)))] H := hP
              have hD : va_D A [(a0, .inl (cI, 4097, .inl kd)), (a1, .inl (cI, 4097, .inl wd)), (a2, .inl (cI, 4097, .inl sr)), (a3, .inl (cI, 4097, .inl od)), (a4, .inl (cI, 4097, .inl sk)), (a5, .inl (cI, 9, .inl ru)), (a6, .inl (cI, 258, .inl me)), (a7, .inl (cI, 8, .inl si)), (a8, .inl (cI, 402, .inl it)), (a14, .inl (cJ, 6, .inr (.inl su))), (a15, .inl (cJ, 6, .inr (.inl ke))), (o, .inr (0, [.int (nI th), .int (nI cn), .ref a0, .ref a1, .ref a2, .ref a3, .ref a4, .ref a5, .int (nI mn), .ref a6, .ref a7, .int (nI ps), .int (nI bk), .ref a8, .ref a9, .ref a10, .ref a11, .ref a12, .ref a13, .ref a14, .ref a15, .int (nI kf), .int lb2_76, .int (nI lc2_76), .long lo2_76, .int (nI el), .int (nI ec), .long eo, .int eb, .long ed, .int (nI mp), .int (nI ml), .long md, .long mo, .int mb, .ref a16, .ref a17])), (a9, .inl (cZ, 3216, .inl iz2_179)), (a10, .inl (cJ, 3216, .inr (.inl ou2_179))), (a11, .inl (cI, 3216, .inl ba2_179)), (a12, .inl (cJ, 3216, .inr (.inl de2_179))), (a13, .inl (cJ, 161604, .inr (.inl bc2_179)))] := hD
              have hP : va_P D vwCl [(o, .inr (0, [.int (nI th), .int (nI cn), .ref a0, .ref a1, .ref a2, .ref a3, .ref a4, .ref a5, .int (nI mn), .ref a6, .ref a7, .int (nI ps), .int (nI bk), .ref a8, .ref a9, .ref a10, .ref a11, .ref a12, .ref a13, .ref a14, .ref a15, .int (nI kf), .int lb2_76, .int (nI lc2_76), .long lo2_76, .int (nI el), .int (nI ec), .long eo, .int eb, .long ed, .int (nI mp), .int (nI ml), .long md, .long mo, .int mb, .ref a16, .ref a17])), (a0, .inl (cI, 4097, .inl kd)), (a1, .inl (cI, 4097, .inl wd)), (a2, .inl (cI, 4097, .inl sr)), (a3, .inl (cI, 4097, .inl od)), (a4, .inl (cI, 4097, .inl sk)), (a5, .inl (cI, 9, .inl ru)), (a6, .inl (cI, 258, .inl me)), (a7, .inl (cI, 8, .inl si)), (a8, .inl (cI, 402, .inl it)), (a9, .inl (cZ, 3216, .inl iz2_179)), (a10, .inl (cJ, 3216, .inr (.inl ou2_179))), (a11, .inl (cI, 3216, .inl ba2_179)), (a12, .inl (cJ, 3216, .inr (.inl de2_179))), (a13, .inl (cJ, 161604, .inr (.inl bc2_179))), (a14, .inl (cJ, 6, .inr (.inl su))), (a15, .inl (cJ, 6, .inr (.inl ke)))] H := hP.sub [11, 0, 1, 2, 3, 4, 5, 6, 7, 8, 12, 13, 14, 15, 16, 9, 10] kt_17_11_0_1_2_3_4_5_6_7_8_12_13_14_15_16_9_10
              have hD : va_D A [(o, .inr (0, [.int (nI th), .int (nI cn), .ref a0, .ref a1, .ref a2, .ref a3, .ref a4, .ref a5, .int (nI mn), .ref a6, .ref a7, .int (nI ps), .int (nI bk), .ref a8, .ref a9, .ref a10, .ref a11, .ref a12, .ref a13, .ref a14, .ref a15, .int (nI kf), .int lb2_76, .int (nI lc2_76), .long lo2_76, .int (nI el), .int (nI ec), .long eo, .int eb, .long ed, .int (nI mp), .int (nI ml), .long md, .long mo, .int mb, .ref a16, .ref a17])), (a0, .inl (cI, 4097, .inl kd)), (a1, .inl (cI, 4097, .inl wd)), (a2, .inl (cI, 4097, .inl sr)), (a3, .inl (cI, 4097, .inl od)), (a4, .inl (cI, 4097, .inl sk)), (a5, .inl (cI, 9, .inl ru)), (a6, .inl (cI, 258, .inl me)), (a7, .inl (cI, 8, .inl si)), (a8, .inl (cI, 402, .inl it)), (a9, .inl (cZ, 3216, .inl iz2_179)), (a10, .inl (cJ, 3216, .inr (.inl ou2_179))), (a11, .inl (cI, 3216, .inl ba2_179)), (a12, .inl (cJ, 3216, .inr (.inl de2_179))), (a13, .inl (cJ, 161604, .inr (.inl bc2_179))), (a14, .inl (cJ, 6, .inr (.inl su))), (a15, .inl (cJ, 6, .inr (.inl ke)))] := hD.sub [11, 0, 1, 2, 3, 4, 5, 6, 7, 8, 12, 13, 14, 15, 16, 9, 10] (by decide) ks_17_11_0_1_2_3_4_5_6_7_8_12_13_14_15_16_9_10
              have hw179 : (pm_nw (z1 (pm_at j n lc2_76)) (pm_bt ps ((o1 ((1608 * ((n + 1) % 2) + 4 * i) + cx)) + lo2_76) (o1 (pm_at j n lc2_76)) ((b1 ((1608 * ((n + 1) % 2) + 4 * i) + cx)) + (nI (pm_ab lb2_76 (ru 1)))) (b1 (pm_at j n lc2_76)) ((d1 ((1608 * ((n + 1) % 2) + 4 * i) + cx)) + (pm_cost ru lb2_76 (pm_pen kd wd od ru cn b) lc2_76 cx (pm_hy kd cn b) (pm_hy kd cn ik) (b = cn))) (d1 (pm_at j n lc2_76)) (nI (((4 * i) + cx) + 1)) (pm_bk (k1 (pm_pc j n)) lc2_76)) ∧ iz2_179 = upd z1 (pm_at j n lc2_76) (nI 1) ∧ ou2_179 = vp_updL o1 (pm_at j n lc2_76) ((o1 ((1608 * ((n + 1) % 2) + 4 * i) + cx)) + lo2_76) ∧ ba2_179 = upd b1 (pm_at j n lc2_76) ((b1 ((1608 * ((n + 1) % 2) + 4 * i) + cx)) + (nI (pm_ab lb2_76 (ru 1)))) ∧ de2_179 = vp_updL d1 (pm_at j n lc2_76) ((d1 ((1608 * ((n + 1) % 2) + 4 * i) + cx)) + (pm_cost ru lb2_76 (pm_pen kd wd od ru cn b) lc2_76 cx (pm_hy kd cn b) (pm_hy kd cn ik) (b = cn))) ∧ bc2_179 = vp_updL k1 (pm_pc j n) (pm_bs (k1 (pm_pc j n)) lc2_76 (nI (((4 * i) + cx) + 1)))) ∨ (¬ (pm_nw (z1 (pm_at j n lc2_76)) (pm_bt ps ((o1 ((1608 * ((n + 1) % 2) + 4 * i) + cx)) + lo2_76) (o1 (pm_at j n lc2_76)) ((b1 ((1608 * ((n + 1) % 2) + 4 * i) + cx)) + (nI (pm_ab lb2_76 (ru 1)))) (b1 (pm_at j n lc2_76)) ((d1 ((1608 * ((n + 1) % 2) + 4 * i) + cx)) + (pm_cost ru lb2_76 (pm_pen kd wd od ru cn b) lc2_76 cx (pm_hy kd cn b) (pm_hy kd cn ik) (b = cn))) (d1 (pm_at j n lc2_76)) (nI (((4 * i) + cx) + 1)) (pm_bk (k1 (pm_pc j n)) lc2_76))) ∧ iz2_179 = z1 ∧ ou2_179 = o1 ∧ ba2_179 = b1 ∧ de2_179 = d1 ∧ bc2_179 = k1) := hw179
              have hq := pt_keep (by omega) (by omega) hw179
              have hq := hq
              refine lv_iinc (v := nI (cx + 1)) (lv' := [(5, .int (nI (cx + 1))), (0, .ref o), (1, .int (nI i)), (2, .int (nI j)), (3, .int (nI n)), (4, .int (nI (1608 * ((n + 1) % 2) + 4 * i)))]) hx hb dd_M_goOn_182 hl (k := 5) rfl (nI_add cx 1) (by decide) rfl (fun ls hl => ?_)
              refine lv_goto (tgt := 90) hx hb dd_M_goOn_185 (by decide) ?_
              exact ih_90 (cx + 1) iz2_179 ou2_179 ba2_179 de2_179 bc2_179 (by omega) (by omega) (by first | exact fun x hx => (hT x hx).trans (congrFun (pt_go_n hpn).symm x) | exact fun x hx => (hq.1 x hx).trans (by rw [hT x hx, pt_go_s hps, eB, eC, eO])) (by first | exact hF | exact pt_fr_tr hF hq.2) H locs hP hD hS ls (lv_sub hl [1, 2, 3, 4, 5, 0] rfl)
      exact lp90 ((4 - 0) + 1) 0 iz ou ba de bc (Nat.lt_succ_self _) (by omega) (fun x _ => rfl) pt_fr_rf H locs hP hD hS ls (lv_sub hl [2, 3, 4, 5, 1, 0] rfl)
    · skip
      have c83 : ¬ (ps = 3 ∨ (lo2_76 = 0 ∧ ¬ ru (ps - 1) < lb2_76)) := kb_0.mp c83
      rw [hQ]
      exact kx_vret hx hb hr hlocks hK hN hS dd_M_goOn_86 (iz, ou, ba, de, bc, lb2_76, lc2_76, lo2_76) hP hD (⟨fun c hc => by rw [if_neg (by rw [← eB, ← eO]; exact c83)], pt_fr_rf⟩)
  · skip
    refine lv_if_ne (tgt := 62) hx hb dd_M_goOn_22 (by decide) (fun c22 => ?_) (fun c22 => ?_)
    · skip
      exact K62 H locs hP hD hS
    · skip
      refine lv_aload_n hx hb dd_M_goOn_25 rfl (lv_at hl 1 rfl) ?_
      refine va_get (D := D) (ci := 0) (v := .ref a9) (C := rr_M) (T := tt_M) (N := 37) hx hb hts hin0 hown hK hP 0 kg_17_0 rfl 14 (by decide) lk0 (fun _ h9 => h9) rfl dd_M_goOn_26 ?_
      refine lv_iload hx hb dd_M_goOn_29 (lv_at hl 0 rfl) ?_
      refine lv_iconst (v := nI 1) hx hb dd_M_goOn_31 (by decide) ?_
      refine kx_iadd hx hb dd_M_goOn_32 ?_
      refine kx_zald (q0 := 10) (t0 := 2) hx hb dd_M_goOn_33 hK hP kg_17_10 rfl (by omega) (by omega) ?_
      refine lv_if_ne (tgt := 62) hx hb dd_M_goOn_34 (by decide) (fun c34 => ?_) (fun c34 => ?_)
      · skip
        exact K62 H locs hP hD hS
      · skip
        refine lv_aload_n hx hb dd_M_goOn_37 rfl (lv_at hl 1 rfl) ?_
        refine va_get (D := D) (ci := 0) (v := .ref a9) (C := rr_M) (T := tt_M) (N := 37) hx hb hts hin0 hown hK hP 0 kg_17_0 rfl 14 (by decide) lk0 (fun _ h9 => h9) rfl dd_M_goOn_38 ?_
        refine lv_iload hx hb dd_M_goOn_41 (lv_at hl 0 rfl) ?_
        refine lv_iconst (v := nI 2) hx hb dd_M_goOn_43 (by decide) ?_
        refine kx_iadd hx hb dd_M_goOn_44 ?_
        refine kx_zald (q0 := 10) (t0 := 2) hx hb dd_M_goOn_45 hK hP kg_17_10 rfl (by omega) (by omega) ?_
        refine lv_if_ne (tgt := 62) hx hb dd_M_goOn_46 (by decide) (fun c46 => ?_) (fun c46 => ?_)
        · skip
          exact K62 H locs hP hD hS
        · skip
          refine lv_aload_n hx hb dd_M_goOn_49 rfl (lv_at hl 1 rfl) ?_
          refine va_get (D := D) (ci := 0) (v := .ref a9) (C := rr_M) (T := tt_M) (N := 37) hx hb hts hin0 hown hK hP 0 kg_17_0 rfl 14 (by decide) lk0 (fun _ h9 => h9) rfl dd_M_goOn_50 ?_
          refine lv_iload hx hb dd_M_goOn_53 (lv_at hl 0 rfl) ?_
          refine lv_iconst (v := nI 3) hx hb dd_M_goOn_55 (by decide) ?_
          refine kx_iadd hx hb dd_M_goOn_56 ?_
          refine kx_zald (q0 := 10) (t0 := 2) hx hb dd_M_goOn_57 hK hP kg_17_10 rfl (by omega) (by omega) ?_
          refine lv_if_ne (tgt := 62) hx hb dd_M_goOn_58 (by decide) (fun c58 => ?_) (fun c58 => ?_)
          · skip
            exact K62 H locs hP hD hS
          · skip
            rw [hQ]
            exact kx_vret hx hb hr hlocks hK hN hS dd_M_goOn_61 (iz, ou, ba, de, bc, lb, lc, lo) hP hD (⟨fun c hc => by rw [pt_go_0 (fun k hk => by unfold pt_pv; rcases (show k = 0 ∨ k = 1 ∨ k = 2 ∨ k = 3 by omega) with h | h | h | h <;> subst h <;> first | exact if_pos c22 | exact if_pos c34 | exact if_pos c46 | exact if_pos c58), ite_self], pt_fr_rf⟩)
