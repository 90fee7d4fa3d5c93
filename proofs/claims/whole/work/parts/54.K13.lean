theorem kt_5_4 {c0 c1 c2 c3 c4 : Nat × va_E} : ([4] : List Nat).filterMap (fun i => ([c0, c1, c2, c3, c4] : va_W)[i]?) = ([c4] : va_W) := rfl
theorem kt_5_ {c0 c1 c2 c3 c4 : Nat × va_E} : ([] : List Nat).filterMap (fun i => ([c0, c1, c2, c3, c4] : va_W)[i]?) = ([] : va_W) := rfl
theorem kt_5_0 {c0 c1 c2 c3 c4 : Nat × va_E} : ([0] : List Nat).filterMap (fun i => ([c0, c1, c2, c3, c4] : va_W)[i]?) = ([c0] : va_W) := rfl
theorem ks_5_0 {c0 c1 c2 c3 c4 : Nat × va_E} : ([0] : List Nat).map (fun i => ([c0, c1, c2, c3, c4] : va_W)[i]?) = ([c0] : va_W).map some := rfl
theorem ks_5_1_2_3_4 {c0 c1 c2 c3 c4 : Nat × va_E} : ([1, 2, 3, 4] : List Nat).map (fun i => ([c0, c1, c2, c3, c4] : va_W)[i]?) = ([c1, c2, c3, c4] : va_W).map some := rfl
theorem kt_9_4_0_1_2_3_5_6_7_8 {c0 c1 c2 c3 c4 c5 c6 c7 c8 : Nat × va_E} : ([4, 0, 1, 2, 3, 5, 6, 7, 8] : List Nat).filterMap (fun i => ([c0, c1, c2, c3, c4, c5, c6, c7, c8] : va_W)[i]?) = ([c4, c0, c1, c2, c3, c5, c6, c7, c8] : va_W) := rfl
theorem ks_9_4_0_1_2_3_5_6_7_8 {c0 c1 c2 c3 c4 c5 c6 c7 c8 : Nat × va_E} : ([4, 0, 1, 2, 3, 5, 6, 7, 8] : List Nat).map (fun i => ([c0, c1, c2, c3, c4, c5, c6, c7, c8] : va_W)[i]?) = ([c4, c0, c1, c2, c3, c5, c6, c7, c8] : va_W).map some := rfl
theorem kt_9_0_5_6_7_8 {c0 c1 c2 c3 c4 c5 c6 c7 c8 : Nat × va_E} : ([0, 5, 6, 7, 8] : List Nat).filterMap (fun i => ([c0, c1, c2, c3, c4, c5, c6, c7, c8] : va_W)[i]?) = ([c0, c5, c6, c7, c8] : va_W) := rfl
theorem ks_9_0_5_6_7_8 {c0 c1 c2 c3 c4 c5 c6 c7 c8 : Nat × va_E} : ([0, 5, 6, 7, 8] : List Nat).map (fun i => ([c0, c1, c2, c3, c4, c5, c6, c7, c8] : va_W)[i]?) = ([c0, c5, c6, c7, c8] : va_W).map some := rfl
theorem kg_18_0 {c0 c1 c2 c3 c4 c5 c6 c7 c8 c9 c10 c11 c12 c13 c14 c15 c16 c17 : Nat × va_E} : ([c0, c1, c2, c3, c4, c5, c6, c7, c8, c9, c10, c11, c12, c13, c14, c15, c16, c17] : va_W)[0]? = some c0 := rfl
theorem kt_18_2_3_4_5_6 {c0 c1 c2 c3 c4 c5 c6 c7 c8 c9 c10 c11 c12 c13 c14 c15 c16 c17 : Nat × va_E} : ([2, 3, 4, 5, 6] : List Nat).filterMap (fun i => ([c0, c1, c2, c3, c4, c5, c6, c7, c8, c9, c10, c11, c12, c13, c14, c15, c16, c17] : va_W)[i]?) = ([c2, c3, c4, c5, c6] : va_W) := rfl
theorem ks_18_2_3_4_5_6 {c0 c1 c2 c3 c4 c5 c6 c7 c8 c9 c10 c11 c12 c13 c14 c15 c16 c17 : Nat × va_E} : ([2, 3, 4, 5, 6] : List Nat).map (fun i => ([c0, c1, c2, c3, c4, c5, c6, c7, c8, c9, c10, c11, c12, c13, c14, c15, c16, c17] : va_W)[i]?) = ([c2, c3, c4, c5, c6] : va_W).map some := rfl
theorem ks_18_0_1_7_8_9_10_11_12_13_14_15_16_17 {c0 c1 c2 c3 c4 c5 c6 c7 c8 c9 c10 c11 c12 c13 c14 c15 c16 c17 : Nat × va_E} : ([0, 1, 7, 8, 9, 10, 11, 12, 13, 14, 15, 16, 17] : List Nat).map (fun i => ([c0, c1, c2, c3, c4, c5, c6, c7, c8, c9, c10, c11, c12, c13, c14, c15, c16, c17] : va_W)[i]?) = ([c0, c1, c7, c8, c9, c10, c11, c12, c13, c14, c15, c16, c17] : va_W).map some := rfl
theorem kt_18_0_1_13_14_15_16_17_2_3_4_5_6_7_8_9_10_11_12 {c0 c1 c2 c3 c4 c5 c6 c7 c8 c9 c10 c11 c12 c13 c14 c15 c16 c17 : Nat × va_E} : ([0, 1, 13, 14, 15, 16, 17, 2, 3, 4, 5, 6, 7, 8, 9, 10, 11, 12] : List Nat).filterMap (fun i => ([c0, c1, c2, c3, c4, c5, c6, c7, c8, c9, c10, c11, c12, c13, c14, c15, c16, c17] : va_W)[i]?) = ([c0, c1, c13, c14, c15, c16, c17, c2, c3, c4, c5, c6, c7, c8, c9, c10, c11, c12] : va_W) := rfl
theorem ks_18_0_1_13_14_15_16_17_2_3_4_5_6_7_8_9_10_11_12 {c0 c1 c2 c3 c4 c5 c6 c7 c8 c9 c10 c11 c12 c13 c14 c15 c16 c17 : Nat × va_E} : ([0, 1, 13, 14, 15, 16, 17, 2, 3, 4, 5, 6, 7, 8, 9, 10, 11, 12] : List Nat).map (fun i => ([c0, c1, c2, c3, c4, c5, c6, c7, c8, c9, c10, c11, c12, c13, c14, c15, c16, c17] : va_W)[i]?) = ([c0, c1, c13, c14, c15, c16, c17, c2, c3, c4, c5, c6, c7, c8, c9, c10, c11, c12] : va_W).map some := rfl
theorem kg_18_2 {c0 c1 c2 c3 c4 c5 c6 c7 c8 c9 c10 c11 c12 c13 c14 c15 c16 c17 : Nat × va_E} : ([c0, c1, c2, c3, c4, c5, c6, c7, c8, c9, c10, c11, c12, c13, c14, c15, c16, c17] : va_W)[2]? = some c2 := rfl
theorem kg_18_3 {c0 c1 c2 c3 c4 c5 c6 c7 c8 c9 c10 c11 c12 c13 c14 c15 c16 c17 : Nat × va_E} : ([c0, c1, c2, c3, c4, c5, c6, c7, c8, c9, c10, c11, c12, c13, c14, c15, c16, c17] : va_W)[3]? = some c3 := rfl
theorem kg_18_4 {c0 c1 c2 c3 c4 c5 c6 c7 c8 c9 c10 c11 c12 c13 c14 c15 c16 c17 : Nat × va_E} : ([c0, c1, c2, c3, c4, c5, c6, c7, c8, c9, c10, c11, c12, c13, c14, c15, c16, c17] : va_W)[4]? = some c4 := rfl
theorem kg_18_5 {c0 c1 c2 c3 c4 c5 c6 c7 c8 c9 c10 c11 c12 c13 c14 c15 c16 c17 : Nat × va_E} : ([c0, c1, c2, c3, c4, c5, c6, c7, c8, c9, c10, c11, c12, c13, c14, c15, c16, c17] : va_W)[5]? = some c5 := rfl
theorem kg_18_6 {c0 c1 c2 c3 c4 c5 c6 c7 c8 c9 c10 c11 c12 c13 c14 c15 c16 c17 : Nat × va_E} : ([c0, c1, c2, c3, c4, c5, c6, c7, c8, c9, c10, c11, c12, c13, c14, c15, c16, c17] : va_W)[6]? = some c6 := rfl
theorem kt_18_7_8_9_10_11 {c0 c1 c2 c3 c4 c5 c6 c7 c8 c9 c10 c11 c12 c13 c14 c15 c16 c17 : Nat × va_E} : ([7, 8, 9, 10, 11] : List Nat).filterMap (fun i => ([c0, c1, c2, c3, c4, c5, c6, c7, c8, c9, c10, c11, c12, c13, c14, c15, c16, c17] : va_W)[i]?) = ([c7, c8, c9, c10, c11] : va_W) := rfl
theorem ks_18_7_8_9_10_11 {c0 c1 c2 c3 c4 c5 c6 c7 c8 c9 c10 c11 c12 c13 c14 c15 c16 c17 : Nat × va_E} : ([7, 8, 9, 10, 11] : List Nat).map (fun i => ([c0, c1, c2, c3, c4, c5, c6, c7, c8, c9, c10, c11, c12, c13, c14, c15, c16, c17] : va_W)[i]?) = ([c7, c8, c9, c10, c11] : va_W).map some := rfl
theorem ks_18_0_1_2_3_4_5_6_12_13_14_15_16_17 {c0 c1 c2 c3 c4 c5 c6 c7 c8 c9 c10 c11 c12 c13 c14 c15 c16 c17 : Nat × va_E} : ([0, 1, 2, 3, 4, 5, 6, 12, 13, 14, 15, 16, 17] : List Nat).map (fun i => ([c0, c1, c2, c3, c4, c5, c6, c7, c8, c9, c10, c11, c12, c13, c14, c15, c16, c17] : va_W)[i]?) = ([c0, c1, c2, c3, c4, c5, c6, c12, c13, c14, c15, c16, c17] : va_W).map some := rfl
theorem kt_18_0_1_2_3_4_5_6_13_14_15_16_17_7_8_9_10_11_12 {c0 c1 c2 c3 c4 c5 c6 c7 c8 c9 c10 c11 c12 c13 c14 c15 c16 c17 : Nat × va_E} : ([0, 1, 2, 3, 4, 5, 6, 13, 14, 15, 16, 17, 7, 8, 9, 10, 11, 12] : List Nat).filterMap (fun i => ([c0, c1, c2, c3, c4, c5, c6, c7, c8, c9, c10, c11, c12, c13, c14, c15, c16, c17] : va_W)[i]?) = ([c0, c1, c2, c3, c4, c5, c6, c13, c14, c15, c16, c17, c7, c8, c9, c10, c11, c12] : va_W) := rfl
theorem ks_18_0_1_2_3_4_5_6_13_14_15_16_17_7_8_9_10_11_12 {c0 c1 c2 c3 c4 c5 c6 c7 c8 c9 c10 c11 c12 c13 c14 c15 c16 c17 : Nat × va_E} : ([0, 1, 2, 3, 4, 5, 6, 13, 14, 15, 16, 17, 7, 8, 9, 10, 11, 12] : List Nat).map (fun i => ([c0, c1, c2, c3, c4, c5, c6, c7, c8, c9, c10, c11, c12, c13, c14, c15, c16, c17] : va_W)[i]?) = ([c0, c1, c2, c3, c4, c5, c6, c13, c14, c15, c16, c17, c7, c8, c9, c10, c11, c12] : va_W).map some := rfl
theorem kz_18_0 {c0 c1 c2 c3 c4 c5 c6 c7 c8 c9 c10 c11 c12 c13 c14 c15 c16 c17 : Nat × va_E} {x : Nat × va_E} : ([c0, c1, c2, c3, c4, c5, c6, c7, c8, c9, c10, c11, c12, c13, c14, c15, c16, c17] : va_W).set 0 x = [x, c1, c2, c3, c4, c5, c6, c7, c8, c9, c10, c11, c12, c13, c14, c15, c16, c17] := rfl
theorem kg_18_1 {c0 c1 c2 c3 c4 c5 c6 c7 c8 c9 c10 c11 c12 c13 c14 c15 c16 c17 : Nat × va_E} : ([c0, c1, c2, c3, c4, c5, c6, c7, c8, c9, c10, c11, c12, c13, c14, c15, c16, c17] : va_W)[1]? = some c1 := rfl
theorem kt_18_12_16 {c0 c1 c2 c3 c4 c5 c6 c7 c8 c9 c10 c11 c12 c13 c14 c15 c16 c17 : Nat × va_E} : ([12, 16] : List Nat).filterMap (fun i => ([c0, c1, c2, c3, c4, c5, c6, c7, c8, c9, c10, c11, c12, c13, c14, c15, c16, c17] : va_W)[i]?) = ([c12, c16] : va_W) := rfl
theorem ks_18_12_16 {c0 c1 c2 c3 c4 c5 c6 c7 c8 c9 c10 c11 c12 c13 c14 c15 c16 c17 : Nat × va_E} : ([12, 16] : List Nat).map (fun i => ([c0, c1, c2, c3, c4, c5, c6, c7, c8, c9, c10, c11, c12, c13, c14, c15, c16, c17] : va_W)[i]?) = ([c12, c16] : va_W).map some := rfl
theorem ks_18_0_1_2_3_4_5_6_7_8_9_10_11_13_14_15_17 {c0 c1 c2 c3 c4 c5 c6 c7 c8 c9 c10 c11 c12 c13 c14 c15 c16 c17 : Nat × va_E} : ([0, 1, 2, 3, 4, 5, 6, 7, 8, 9, 10, 11, 13, 14, 15, 17] : List Nat).map (fun i => ([c0, c1, c2, c3, c4, c5, c6, c7, c8, c9, c10, c11, c12, c13, c14, c15, c16, c17] : va_W)[i]?) = ([c0, c1, c2, c3, c4, c5, c6, c7, c8, c9, c10, c11, c13, c14, c15, c17] : va_W).map some := rfl
theorem kt_18_0_1_2_3_4_5_6_7_8_9_10_11_16_12_13_14_17_15 {c0 c1 c2 c3 c4 c5 c6 c7 c8 c9 c10 c11 c12 c13 c14 c15 c16 c17 : Nat × va_E} : ([0, 1, 2, 3, 4, 5, 6, 7, 8, 9, 10, 11, 16, 12, 13, 14, 17, 15] : List Nat).filterMap (fun i => ([c0, c1, c2, c3, c4, c5, c6, c7, c8, c9, c10, c11, c12, c13, c14, c15, c16, c17] : va_W)[i]?) = ([c0, c1, c2, c3, c4, c5, c6, c7, c8, c9, c10, c11, c16, c12, c13, c14, c17, c15] : va_W) := rfl
theorem ks_18_0_1_2_3_4_5_6_7_8_9_10_11_16_12_13_14_17_15 {c0 c1 c2 c3 c4 c5 c6 c7 c8 c9 c10 c11 c12 c13 c14 c15 c16 c17 : Nat × va_E} : ([0, 1, 2, 3, 4, 5, 6, 7, 8, 9, 10, 11, 16, 12, 13, 14, 17, 15] : List Nat).map (fun i => ([c0, c1, c2, c3, c4, c5, c6, c7, c8, c9, c10, c11, c12, c13, c14, c15, c16, c17] : va_W)[i]?) = ([c0, c1, c2, c3, c4, c5, c6, c7, c8, c9, c10, c11, c16, c12, c13, c14, c17, c15] : va_W).map some := rfl
theorem kg_18_12 {c0 c1 c2 c3 c4 c5 c6 c7 c8 c9 c10 c11 c12 c13 c14 c15 c16 c17 : Nat × va_E} : ([c0, c1, c2, c3, c4, c5, c6, c7, c8, c9, c10, c11, c12, c13, c14, c15, c16, c17] : va_W)[12]? = some c12 := rfl
theorem kg_18_13 {c0 c1 c2 c3 c4 c5 c6 c7 c8 c9 c10 c11 c12 c13 c14 c15 c16 c17 : Nat × va_E} : ([c0, c1, c2, c3, c4, c5, c6, c7, c8, c9, c10, c11, c12, c13, c14, c15, c16, c17] : va_W)[13]? = some c13 := rfl
theorem kg_18_14 {c0 c1 c2 c3 c4 c5 c6 c7 c8 c9 c10 c11 c12 c13 c14 c15 c16 c17 : Nat × va_E} : ([c0, c1, c2, c3, c4, c5, c6, c7, c8, c9, c10, c11, c12, c13, c14, c15, c16, c17] : va_W)[14]? = some c14 := rfl
theorem kg_18_15 {c0 c1 c2 c3 c4 c5 c6 c7 c8 c9 c10 c11 c12 c13 c14 c15 c16 c17 : Nat × va_E} : ([c0, c1, c2, c3, c4, c5, c6, c7, c8, c9, c10, c11, c12, c13, c14, c15, c16, c17] : va_W)[15]? = some c15 := rfl
theorem kg_18_16 {c0 c1 c2 c3 c4 c5 c6 c7 c8 c9 c10 c11 c12 c13 c14 c15 c16 c17 : Nat × va_E} : ([c0, c1, c2, c3, c4, c5, c6, c7, c8, c9, c10, c11, c12, c13, c14, c15, c16, c17] : va_W)[16]? = some c16 := rfl
theorem kg_18_17 {c0 c1 c2 c3 c4 c5 c6 c7 c8 c9 c10 c11 c12 c13 c14 c15 c16 c17 : Nat × va_E} : ([c0, c1, c2, c3, c4, c5, c6, c7, c8, c9, c10, c11, c12, c13, c14, c15, c16, c17] : va_W)[17]? = some c17 := rfl
theorem kz_18_17 {c0 c1 c2 c3 c4 c5 c6 c7 c8 c9 c10 c11 c12 c13 c14 c15 c16 c17 : Nat × va_E} {x : Nat × va_E} : ([c0, c1, c2, c3, c4, c5, c6, c7, c8, c9, c10, c11, c12, c13, c14, c15, c16, c17] : va_W).set 17 x = [c0, c1, c2, c3, c4, c5, c6, c7, c8, c9, c10, c11, c12, c13, c14, c15, c16, x] := rfl
theorem kz_7_1 {c0 c1 c2 c3 c4 c5 c6 : Nat × va_E} {x : Nat × va_E} : ([c0, c1, c2, c3, c4, c5, c6] : va_W).set 1 x = [c0, x, c2, c3, c4, c5, c6] := rfl
theorem kz_7_2 {c0 c1 c2 c3 c4 c5 c6 : Nat × va_E} {x : Nat × va_E} : ([c0, c1, c2, c3, c4, c5, c6] : va_W).set 2 x = [c0, c1, x, c3, c4, c5, c6] := rfl
theorem kz_7_3 {c0 c1 c2 c3 c4 c5 c6 : Nat × va_E} {x : Nat × va_E} : ([c0, c1, c2, c3, c4, c5, c6] : va_W).set 3 x = [c0, c1, c2, x, c4, c5, c6] := rfl
theorem kz_7_4 {c0 c1 c2 c3 c4 c5 c6 : Nat × va_E} {x : Nat × va_E} : ([c0, c1, c2, c3, c4, c5, c6] : va_W).set 4 x = [c0, c1, c2, c3, x, c5, c6] := rfl
theorem kz_7_5 {c0 c1 c2 c3 c4 c5 c6 : Nat × va_E} {x : Nat × va_E} : ([c0, c1, c2, c3, c4, c5, c6] : va_W).set 5 x = [c0, c1, c2, c3, c4, x, c6] := rfl
theorem kt_6_0 {c0 c1 c2 c3 c4 c5 : Nat × va_E} : ([0] : List Nat).filterMap (fun i => ([c0, c1, c2, c3, c4, c5] : va_W)[i]?) = ([c0] : va_W) := rfl
theorem ks_6_0 {c0 c1 c2 c3 c4 c5 : Nat × va_E} : ([0] : List Nat).map (fun i => ([c0, c1, c2, c3, c4, c5] : va_W)[i]?) = ([c0] : va_W).map some := rfl
theorem ks_6_1_2_3_4_5 {c0 c1 c2 c3 c4 c5 : Nat × va_E} : ([1, 2, 3, 4, 5] : List Nat).map (fun i => ([c0, c1, c2, c3, c4, c5] : va_W)[i]?) = ([c1, c2, c3, c4, c5] : va_W).map some := rfl
theorem kt_11_5_0_1_2_3_4_6_7_8_9_10 {c0 c1 c2 c3 c4 c5 c6 c7 c8 c9 c10 : Nat × va_E} : ([5, 0, 1, 2, 3, 4, 6, 7, 8, 9, 10] : List Nat).filterMap (fun i => ([c0, c1, c2, c3, c4, c5, c6, c7, c8, c9, c10] : va_W)[i]?) = ([c5, c0, c1, c2, c3, c4, c6, c7, c8, c9, c10] : va_W) := rfl
theorem ks_11_5_0_1_2_3_4_6_7_8_9_10 {c0 c1 c2 c3 c4 c5 c6 c7 c8 c9 c10 : Nat × va_E} : ([5, 0, 1, 2, 3, 4, 6, 7, 8, 9, 10] : List Nat).map (fun i => ([c0, c1, c2, c3, c4, c5, c6, c7, c8, c9, c10] : va_W)[i]?) = ([c5, c0, c1, c2, c3, c4, c6, c7, c8, c9, c10] : va_W).map some := rfl
theorem kt_11_0_6_7_8_9_10 {c0 c1 c2 c3 c4 c5 c6 c7 c8 c9 c10 : Nat × va_E} : ([0, 6, 7, 8, 9, 10] : List Nat).filterMap (fun i => ([c0, c1, c2, c3, c4, c5, c6, c7, c8, c9, c10] : va_W)[i]?) = ([c0, c6, c7, c8, c9, c10] : va_W) := rfl
theorem ks_11_0_6_7_8_9_10 {c0 c1 c2 c3 c4 c5 c6 c7 c8 c9 c10 : Nat × va_E} : ([0, 6, 7, 8, 9, 10] : List Nat).map (fun i => ([c0, c1, c2, c3, c4, c5, c6, c7, c8, c9, c10] : va_W)[i]?) = ([c0, c6, c7, c8, c9, c10] : va_W).map some := rfl
theorem kw_1 : Cond.selects rr_Rw yy_Rw_makeRows yy_Rw_makeRows ∈ kx_T := kx_in (i := 1) (by decide +kernel) (by decide +kernel)
theorem kw_2 : Cond.selects rr_Md yy_Md_makeRows yy_Md_makeRows ∈ kx_T := kx_in (i := 2) (by decide +kernel) (by decide +kernel)
theorem kw_52 : Cond.initialized rr_Md ∈ kx_T := kx_in (i := 52) (by decide +kernel) (by decide +kernel)
theorem kw_55 : Cond.initialized rr_Ar ∈ kx_T := kx_in (i := 55) (by decide +kernel) (by decide +kernel)
theorem kw_231 : Cond.fieldLink rr_Md (52) "LineDesk$Fit" "badness" "I" ∈ kx_T := kx_in (i := 231) (by decide +kernel) (by decide +kernel)
theorem kw_234 : Cond.fieldLink rr_Md (56) "LineDesk$Fit" "fitClass" "I" ∈ kx_T := kx_in (i := 234) (by decide +kernel) (by decide +kernel)
theorem kw_237 : Cond.fieldLink rr_Md (60) "LineDesk$Fit" "out" "J" ∈ kx_T := kx_in (i := 237) (by decide +kernel) (by decide +kernel)
theorem kw_253 : Cond.methodLink rr_Rw (9) yy_Rw_makeRows ∈ kx_T := kx_in (i := 253) (by decide +kernel) (by decide +kernel)
theorem kw_255 : Cond.instanceMethod yy_Rw_makeRows ∈ kx_T := kx_in (i := 255) (by decide +kernel) (by decide +kernel)
set_option maxRecDepth 100000 in
theorem kw_256 : Cond.code yy_Rw_makeRows bb_Rw_makeRows 2 none ∈ kx_T := kx_in (i := 256) rfl (by decide +kernel)
theorem kw_257 : Cond.fieldLink rr_Se (87) "LineDesk$Row" "any" "Z" ∈ kx_T := kx_in (i := 257) (by decide +kernel) (by decide +kernel)
theorem kw_285 : Cond.fieldLink rr_Se (38) "LineDesk$Search" "layerBest" "LLineDesk$Row;" ∈ kx_T := kx_in (i := 285) (by decide +kernel) (by decide +kernel)
theorem kw_286 : Cond.fieldLink rr_Se (42) "LineDesk$Search" "best" "LLineDesk$Row;" ∈ kx_T := kx_in (i := 286) (by decide +kernel) (by decide +kernel)
theorem kw_339 : Cond.methodLink rr_Md (9) yy_Md_makeRows ∈ kx_T := kx_in (i := 339) (by decide +kernel) (by decide +kernel)
theorem kw_341 : Cond.instanceMethod yy_Md_makeRows ∈ kx_T := kx_in (i := 341) (by decide +kernel) (by decide +kernel)
set_option maxRecDepth 100000 in
theorem kw_342 : Cond.code yy_Md_makeRows bb_Md_makeRows 2 none ∈ kx_T := kx_in (i := 342) rfl (by decide +kernel)
theorem kw_343 : Cond.fieldLink rr_Md (35) "LineDesk$Made" "pass" "I" ∈ kx_T := kx_in (i := 343) (by decide +kernel) (by decide +kernel)
theorem kw_345 : Cond.fieldLink rr_Md (39) "LineDesk$Made" "count" "I" ∈ kx_T := kx_in (i := 345) (by decide +kernel) (by decide +kernel)
theorem kw_347 : Cond.fieldLink rr_Md (42) "LineDesk$Made" "over" "I" ∈ kx_T := kx_in (i := 347) (by decide +kernel) (by decide +kernel)
theorem kw_350 : Cond.fieldLink rr_Md (45) "LineDesk$Made" "allDemerits" "J" ∈ kx_T := kx_in (i := 350) (by decide +kernel) (by decide +kernel)
theorem kw_353 : Cond.fieldLink rr_Md (49) "LineDesk$Made" "allOut" "J" ∈ kx_T := kx_in (i := 353) (by decide +kernel) (by decide +kernel)
theorem kw_418 : Cond.static yy_K_grown ∈ kx_T := kx_in (i := 418) (by decide +kernel) (by decide +kernel)
set_option maxRecDepth 100000 in
theorem kw_419 : Cond.code yy_K_grown bb_K_grown 3 (some .int) ∈ kx_T := kx_in (i := 419) rfl (by decide +kernel)
theorem kw_645 : Cond.methodLink rr_Se (136) yy_Rw_forget ∈ kx_T := kx_in (i := 645) (by decide +kernel) (by decide +kernel)
theorem kw_646 : Cond.instanceMethod yy_Rw_forget ∈ kx_T := kx_in (i := 646) (by decide +kernel) (by decide +kernel)
theorem kw_647 : Cond.selects rr_Rw yy_Rw_forget yy_Rw_forget ∈ kx_T := kx_in (i := 647) (by decide +kernel) (by decide +kernel)
set_option maxRecDepth 100000 in
theorem kw_648 : Cond.code yy_Rw_forget bb_Rw_forget 3 none ∈ kx_T := kx_in (i := 648) rfl (by decide +kernel)
theorem kw_650 : Cond.methodLink rr_Rw (37) yy_Ar_fill ∈ kx_T := kx_in (i := 650) (by decide +kernel) (by decide +kernel)
theorem kw_651 : Cond.static yy_Ar_fill ∈ kx_T := kx_in (i := 651) (by decide +kernel) (by decide +kernel)
set_option maxRecDepth 100000 in
theorem kw_652 : Cond.code yy_Ar_fill bb_Ar_fill 4 none ∈ kx_T := kx_in (i := 652) rfl (by decide +kernel)
theorem kw_762 : Cond.constantLong rr_Md (58) (2147483647) ∈ kx_T := kx_in (i := 762) (by decide +kernel) (by decide +kernel)
theorem kw_763 : Cond.methodLink rr_Md (62) yy_Ma_min_1 ∈ kx_T := kx_in (i := 763) (by decide +kernel) (by decide +kernel)
theorem kw_764 : Cond.static yy_Ma_min_1 ∈ kx_T := kx_in (i := 764) (by decide +kernel) (by decide +kernel)
set_option maxRecDepth 100000 in
theorem kw_765 : Cond.code yy_Ma_min_1 bb_Ma_min_1 4 (some .long) ∈ kx_T := kx_in (i := 765) rfl (by decide +kernel)
theorem dd_Ar_fill_0 : decode bb_Ar_fill 0 = .ok (.iconst 0, 1) := by decide +kernel
theorem dd_Ar_fill_1 : decode bb_Ar_fill 1 = .ok (.istore_n 2, 1) := by decide +kernel
theorem dd_Ar_fill_2 : decode bb_Ar_fill 2 = .ok (.aload_n 0, 1) := by decide +kernel
theorem dd_Ar_fill_3 : decode bb_Ar_fill 3 = .ok (.arraylength, 1) := by decide +kernel
theorem dd_Ar_fill_4 : decode bb_Ar_fill 4 = .ok (.istore_n 3, 1) := by decide +kernel
theorem dd_Ar_fill_5 : decode bb_Ar_fill 5 = .ok (.iload_n 2, 1) := by decide +kernel
theorem dd_Ar_fill_6 : decode bb_Ar_fill 6 = .ok (.iload_n 3, 1) := by decide +kernel
theorem dd_Ar_fill_7 : decode bb_Ar_fill 7 = .ok (.if_icmp .ge (13), 3) := by decide +kernel
theorem dd_Ar_fill_10 : decode bb_Ar_fill 10 = .ok (.aload_n 0, 1) := by decide +kernel
theorem dd_Ar_fill_11 : decode bb_Ar_fill 11 = .ok (.iload_n 2, 1) := by decide +kernel
theorem dd_Ar_fill_12 : decode bb_Ar_fill 12 = .ok (.iload_n 1, 1) := by decide +kernel
theorem dd_Ar_fill_13 : decode bb_Ar_fill 13 = .ok (.iastore, 1) := by decide +kernel
theorem dd_Ar_fill_14 : decode bb_Ar_fill 14 = .ok (.iinc 2 (1), 3) := by decide +kernel
theorem dd_Ar_fill_17 : decode bb_Ar_fill 17 = .ok (.goto (-12), 3) := by decide +kernel
theorem dd_Ar_fill_20 : decode bb_Ar_fill 20 = .ok (.return_, 1) := by decide +kernel

set_option maxHeartbeats 4000000 in
set_option maxRecDepth 100000 in
theorem ct_Ar_fill (l : Launch) (D : va_G) (cI cJ cZ : ClassId) (sz : Nat) (a9 : Nat) (n : Nat) (f0 : Nat → Int32) (vl : Int32) (hn : n < 2 ^ 30) : kx_Mv l yy_Ar_fill ww_Ar_fill ({ frames := 0, cells := 0, slots := 0, locals := 0 }) D vwCl (kx_ty cI cJ cZ) [.ref a9, .int vl] [(a9, .inl (cI, n, .inl f0))] sz (fun (u : (Nat → Int32)) => ∀ j, j < n → u j = vl) (fun (u : (Nat → Int32)) => [(a9, .inl (cI, n, .inl u))]) 0 0 := by
  refine kx_startv (by decide) rfl (Nat.le_of_ble_eq_true rfl) ?_
  intro p e s m below meth c A ls hx hb hr hml hts hown hlocks hin hP hK hN hD hA hS hl
  have hl : lv_has ls 4 [(0, .ref a9), (1, .int vl)] := hl
  have hown : s.vm.findClass rr_Ar = some m.cls := hown
  obtain ⟨H, hH⟩ : ∃ H, H = s.heap := ⟨_, rfl⟩
  obtain ⟨locs, hlocs⟩ : ∃ z : List Loc, z = [] := ⟨_, rfl⟩
  have hP : va_P D vwCl [(a9, .inl (cI, n, .inl f0))] H := by rw [hH]; exact hP
  have hS : va_S A s.heap H locs := by rw [hH, hlocs]; exact hS
  refine kx_gen hH hlocs ?_
  clear hH hlocs
  refine kx_nameQ (fun Q hQ => ?_)
  refine lv_iconst (v := nI 0) hx hb dd_Ar_fill_0 (by decide) ?_
  refine lv_istore_n (lv' := [(2, .int (nI 0)), (0, .ref a9), (1, .int vl)]) hx hb dd_Ar_fill_1 rfl hl (by decide) rfl (fun ls hl => ?_)
  refine lv_aload_n hx hb dd_Ar_fill_2 rfl (lv_at hl 1 rfl) ?_
  refine va_alen hx hb hK hP 0 0 kg_1_0 rfl (v := nI n) rfl dd_Ar_fill_3 ?_
  refine lv_istore_n (lv' := [(3, .int (nI n)), (2, .int (nI 0)), (0, .ref a9), (1, .int vl)]) hx hb dd_Ar_fill_4 rfl hl (by decide) rfl (fun ls hl => ?_)
  have lp5 : ∀ (N9_5 : Nat) (i : Nat) (f1 : Nat → Int32), (n - i) < N9_5 → (i ≤ n) → (∀ j, j < i → f1 j = vl) → ∀ (H : Heap) (locs : List Loc), va_P D vwCl [(a9, .inl (cI, n, .inl f1))] H → va_D A [(a9, .inl (cI, n, .inl f1))] → va_S A s.heap H locs → ∀ (ls : Array Slot), lv_has ls 4 [(0, .ref a9), (1, .int vl), (2, .int (nI i)), (3, .int (nI n))] → W p l e (headSpec ww_Ar_fill { frames := 0, cells := 0, slots := 0, locals := 0 }).room s m ([.ref a9, .int vl] : List Value).toArray below meth c H locs 0 0 Q (F0 m 5 ls []) := by
    clear hP hD hS hl
    intro N9_5
    induction N9_5 with
    | zero => intro _ _ h9; exact absurd h9 (Nat.not_lt_zero _)
    | succ N9_5 ih_5 =>
      intro i f1 hμ_5 hi hf H locs hP hD hS ls hl
      refine lv_iload_n hx hb dd_Ar_fill_5 rfl (lv_at hl 2 rfl) ?_
      refine lv_iload_n hx hb dd_Ar_fill_6 rfl (lv_at hl 3 rfl) ?_
      refine lv_icmp_ge (tgt := 20) hx hb dd_Ar_fill_7 (by decide) (fun c7 => ?_) (fun c7 => ?_)
      · skip
        have c7 : n ≤ i := (nI_leI (by omega) (by omega)).mp c7
        rw [hQ]
        exact kx_vret hx hb hr hlocks hK hN hS dd_Ar_fill_20 f1 hP hD (fun j hj => hf j (by omega))
      · skip
        have c7 : ¬ (n ≤ i) := fun h => c7 ((nI_leI (by omega) (by omega)).mpr h)
        refine lv_aload_n hx hb dd_Ar_fill_10 rfl (lv_at hl 0 rfl) ?_
        refine lv_iload_n hx hb dd_Ar_fill_11 rfl (lv_at hl 2 rfl) ?_
        refine lv_iload_n hx hb dd_Ar_fill_12 rfl (lv_at hl 1 rfl) ?_
        refine kx_iast (q0 := 0) (t0 := 0) hx hb dd_Ar_fill_13 hK hP hD hS kg_1_0 rfl (by omega) (by omega) (fun H locs hP hD hS => ?_)
        have hP : va_P D vwCl [(a9, .inl (cI, n, .inl (upd f1 i vl)))] H := kx_cP kz_1_0 hP
        have hD : va_D A [(a9, .inl (cI, n, .inl (upd f1 i vl)))] := kx_cD kz_1_0 hD
        refine lv_iinc (v := nI (i + 1)) (lv' := [(2, .int (nI (i + 1))), (0, .ref a9), (1, .int vl), (3, .int (nI n))]) hx hb dd_Ar_fill_14 hl (k := 2) rfl (nI_add i 1) (by decide) rfl (fun ls hl => ?_)
        refine lv_goto (tgt := 5) hx hb dd_Ar_fill_17 (by decide) ?_
        exact ih_5 (i + 1) (upd f1 i vl) (by omega) (by omega) (fun j hj => (Decidable.em (j = i)).elim (fun q => by unfold upd; rw [if_pos q]) (fun q => by unfold upd; rw [if_neg q]; exact hf j (by omega))) H locs hP hD hS ls (lv_sub hl [1, 2, 0, 3] rfl)
  exact lp5 ((n - 0) + 1) 0 f0 (Nat.lt_succ_self _) (by omega) (fun j hj => absurd hj (Nat.not_lt_zero _)) H locs hP hD hS ls (lv_sub hl [2, 3, 1, 0] rfl)

theorem dd_Rw_forget_0 : decode bb_Rw_forget 0 = .ok (.iload_n 1, 1) := by decide +kernel
theorem dd_Rw_forget_1 : decode bb_Rw_forget 1 = .ok (.aload_n 0, 1) := by decide +kernel
theorem dd_Rw_forget_2 : decode bb_Rw_forget 2 = .ok (.getfield 15, 3) := by decide +kernel
theorem dd_Rw_forget_5 : decode bb_Rw_forget 5 = .ok (.arraylength, 1) := by decide +kernel
theorem dd_Rw_forget_6 : decode bb_Rw_forget 6 = .ok (.if_icmp .le (17), 3) := by decide +kernel
theorem dd_Rw_forget_9 : decode bb_Rw_forget 9 = .ok (.aload_n 0, 1) := by decide +kernel
theorem dd_Rw_forget_10 : decode bb_Rw_forget 10 = .ok (.aload_n 0, 1) := by decide +kernel
theorem dd_Rw_forget_11 : decode bb_Rw_forget 11 = .ok (.getfield 15, 3) := by decide +kernel
theorem dd_Rw_forget_14 : decode bb_Rw_forget 14 = .ok (.arraylength, 1) := by decide +kernel
theorem dd_Rw_forget_15 : decode bb_Rw_forget 15 = .ok (.iload_n 1, 1) := by decide +kernel
theorem dd_Rw_forget_16 : decode bb_Rw_forget 16 = .ok (.iload_n 2, 1) := by decide +kernel
theorem dd_Rw_forget_17 : decode bb_Rw_forget 17 = .ok (.invokestatic 29, 3) := by decide +kernel
theorem dd_Rw_forget_20 : decode bb_Rw_forget 20 = .ok (.invokevirtual 9, 3) := by decide +kernel
theorem dd_Rw_forget_23 : decode bb_Rw_forget 23 = .ok (.aload_n 0, 1) := by decide +kernel
theorem dd_Rw_forget_24 : decode bb_Rw_forget 24 = .ok (.iconst 0, 1) := by decide +kernel
theorem dd_Rw_forget_25 : decode bb_Rw_forget 25 = .ok (.putfield 33, 3) := by decide +kernel
theorem dd_Rw_forget_28 : decode bb_Rw_forget 28 = .ok (.aload_n 0, 1) := by decide +kernel
theorem dd_Rw_forget_29 : decode bb_Rw_forget 29 = .ok (.getfield 26, 3) := by decide +kernel
theorem dd_Rw_forget_32 : decode bb_Rw_forget 32 = .ok (.iconst (-1), 1) := by decide +kernel
theorem dd_Rw_forget_33 : decode bb_Rw_forget 33 = .ok (.invokestatic 37, 3) := by decide +kernel
theorem dd_Rw_forget_36 : decode bb_Rw_forget 36 = .ok (.return_, 1) := by decide +kernel

set_option maxHeartbeats 4000000 in
set_option maxRecDepth 100000 in
theorem ct_Rw_forget_s (l : Launch) (D : va_G) (cI cJ cZ : ClassId) (sz : Nat) (o : Nat) (q0 : Nat) (q1 : Nat) (q2 : Nat) (q3 : Nat) (ln : Nat) (an : Int32) (ro : Nat → Int64) (rv : Nat → Int32) (rd : Nat → Int64) (rc : Nat → Int32) (pn : Nat) (mo : Nat) (hp : pn ≤ ln) (hln : ln < 2 ^ 20) : kx_Mv l yy_Rw_forget ww_Rw_forget ({ frames := 1, cells := 0, slots := 0, locals := 23 }) D vwCl (kx_ty cI cJ cZ) [.ref o, .int (nI pn), .int (nI mo)] [(o, .inr (6, [.int an, .ref q0, .ref q1, .ref q2, .ref q3])), (q0, .inl (cJ, ln, .inr (.inl ro))), (q1, .inl (cI, ln, .inl rv)), (q2, .inl (cJ, ln, .inr (.inl rd))), (q3, .inl (cI, ln, .inl rc))] sz (fun (u : (Nat → Int32)) => ∀ j, j < ln → u j = (-1)) (fun (u : (Nat → Int32)) => [(o, .inr (6, [.int (nI 0), .ref q0, .ref q1, .ref q2, .ref q3])), (q0, .inl (cJ, ln, .inr (.inl ro))), (q1, .inl (cI, ln, .inl rv)), (q2, .inl (cJ, ln, .inr (.inl rd))), (q3, .inl (cI, ln, .inl u))]) 0 0 := by
  refine kx_startv (by decide) rfl (Nat.le_of_ble_eq_true rfl) ?_
  intro p e s m below meth c A ls hx hb hr hml hts hown hlocks hin hP hK hN hD hA hS hl
  have hl : lv_has ls 3 [(0, .ref o), (1, .int (nI pn)), (2, .int (nI mo))] := hl
  have hown : s.vm.findClass rr_Rw = some m.cls := hown
  have lk0 := hts _ (kx_m kw_259)
  have hin6 : ∀ w ∈ u_ws rr_Rw tt_Rw 5, w ∈ ww_Rw_forget := fun w h => kx_m (kf_Rw w h)
  have lk2 := hts _ (kx_m kw_258)
  have lk3 := hts _ (kx_m kw_265)
  obtain ⟨H, hH⟩ : ∃ H, H = s.heap := ⟨_, rfl⟩
  obtain ⟨locs, hlocs⟩ : ∃ z : List Loc, z = [] := ⟨_, rfl⟩
  have hP : va_P D vwCl [(o, .inr (6, [.int an, .ref q0, .ref q1, .ref q2, .ref q3])), (q0, .inl (cJ, ln, .inr (.inl ro))), (q1, .inl (cI, ln, .inl rv)), (q2, .inl (cJ, ln, .inr (.inl rd))), (q3, .inl (cI, ln, .inl rc))] H := by rw [hH]; exact hP
  have hS : va_S A s.heap H locs := by rw [hH, hlocs]; exact hS
  refine kx_gen hH hlocs ?_
  clear hH hlocs
  refine kx_nameQ (fun Q hQ => ?_)
  refine lv_iload_n hx hb dd_Rw_forget_0 rfl (lv_at hl 1 rfl) ?_
  refine lv_aload_n hx hb dd_Rw_forget_1 rfl (lv_at hl 0 rfl) ?_
  refine va_get (D := D) (ci := 6) (v := .ref q0) (C := rr_Rw) (T := tt_Rw) (N := 5) hx hb hts hin6 hown hK hP 0 kg_5_0 rfl 1 (by decide) lk0 (fun _ h9 => h9) rfl dd_Rw_forget_2 ?_
  refine va_alen hx hb hK hP 1 1 kg_5_1 rfl (v := nI ln) rfl dd_Rw_forget_5 ?_
  refine lv_icmp_le (tgt := 23) hx hb dd_Rw_forget_6 (by decide) (fun c6 => ?_) (fun c6 => ?_)
  · skip
    have c6 : pn ≤ ln := (nI_leI (by omega) (by omega)).mp c6
    refine lv_aload_n hx hb dd_Rw_forget_23 rfl (lv_at hl 0 rfl) ?_
    refine lv_iconst (v := nI 0) hx hb dd_Rw_forget_24 (by decide) ?_
    refine va_put (D := D) (ci := 6) (v := .int (nI 0)) (ty := .boolean) (C := rr_Rw) (T := tt_Rw) (N := 5) hx hb hts hin6 ft_Rw ft_Rw_ok nn_Rw hown hK hP hD hS 0 kg_5_0 rfl 0 (by decide) lk2 (fun _ h9 => h9) rfl (by decide +kernel) rfl rfl (Nat.le_of_ble_eq_true rfl) dd_Rw_forget_25 (fun H locs hP hD hS => ?_)
    have hP : va_P D vwCl [(o, .inr (6, [.int (nI 0), .ref q0, .ref q1, .ref q2, .ref q3])), (q0, .inl (cJ, ln, .inr (.inl ro))), (q1, .inl (cI, ln, .inl rv)), (q2, .inl (cJ, ln, .inr (.inl rd))), (q3, .inl (cI, ln, .inl rc))] H := kx_cP kz_5_0 hP
    have hD : va_D A [(o, .inr (6, [.int (nI 0), .ref q0, .ref q1, .ref q2, .ref q3])), (q0, .inl (cJ, ln, .inr (.inl ro))), (q1, .inl (cI, ln, .inl rv)), (q2, .inl (cJ, ln, .inr (.inl rd))), (q3, .inl (cI, ln, .inl rc))] := kx_cD kz_5_0 hD
    refine lv_aload_n hx hb dd_Rw_forget_28 rfl (lv_at hl 0 rfl) ?_
    refine va_get (D := D) (ci := 6) (v := .ref q3) (C := rr_Rw) (T := tt_Rw) (N := 5) hx hb hts hin6 hown hK hP 0 kg_5_0 rfl 4 (by decide) lk3 (fun _ h9 => h9) rfl dd_Rw_forget_29 ?_
    refine lv_iconst (v := (-1)) hx hb dd_Rw_forget_32 (by decide) ?_
    refine kx_callv (wr := [(o, .inr (6, [.int (nI 0), .ref q0, .ref q1, .ref q2, .ref q3])), (q0, .inl (cJ, ln, .inr (.inl ro))), (q1, .inl (cI, ln, .inl rv)), (q2, .inl (cJ, ln, .inr (.inl rd)))]) (va_runS (As := [.ref q3, .int (-1)]) (rest := []) ⟨hx, hb, hml, hown, hts⟩ (ct_Ar_fill l D cI cJ cZ H.size q3 ln rc (-1) (by omega)) ⟨(callB_of 2 hts (kx_good kw_652) rfl rfl rfl (hts _ (kx_m kw_55)) (hts _ (kx_m kw_650)) (by decide +kernel) ⟨Nat.le_of_ble_eq_true rfl, Nat.le_of_ble_eq_true rfl⟩), (hts _ (kx_m kw_651))⟩ (kx_preS hK hN (hP.sub [4] kt_5_4) (hD.sub [4] (by decide) ks_5_4)) rfl rfl hl.1 rfl (lv_room (Nat.le_of_ble_eq_true rfl)) dd_Rw_forget_33 ⟨Nat.le_of_ble_eq_true rfl, Nat.le_of_ble_eq_true rfl⟩) hP hD hS hA [4] [0, 1, 2, 3] ks_5_4 ks_5_0_1_2_3 (by decide) (by decide) (fun u33 H locs hw33 hP hD hS => ?_)
    obtain ⟨f2_33, rfl⟩ : ∃ z, z = u33 := ⟨_, rfl⟩
    have hP : va_P D vwCl [(o, .inr (6, [.int (nI 0), .ref q0, .ref q1, .ref q2, .ref q3])), (q0, .inl (cJ, ln, .inr (.inl ro))), (q1, .inl (cI, ln, .inl rv)), (q2, .inl (cJ, ln, .inr (.inl rd))), (q3, .inl (cI, ln, .inl f2_33))] H := hP
    have hD : va_D A [(o, .inr (6, [.int (nI 0), .ref q0, .ref q1, .ref q2, .ref q3])), (q0, .inl (cJ, ln, .inr (.inl ro))), (q1, .inl (cI, ln, .inl rv)), (q2, .inl (cJ, ln, .inr (.inl rd))), (q3, .inl (cI, ln, .inl f2_33))] := hD
    have hw33 : ∀ j, j < ln → f2_33 j = (-1) := hw33
    rw [hQ]
    exact kx_vret hx hb hr hlocks hK hN hS dd_Rw_forget_36 f2_33 hP hD hw33
  · skip
    have c6 : ¬ (pn ≤ ln) := fun h => c6 ((nI_leI (by omega) (by omega)).mpr h)
    exact absurd hp c6


set_option maxHeartbeats 4000000 in
set_option maxRecDepth 100000 in
theorem ct_Rw_forget (l : Launch) (D : va_G) (cI cJ cZ : ClassId) (sz : Nat) (o : Nat) (q0 : Nat) (q1 : Nat) (q2 : Nat) (q3 : Nat) (ln : Nat) (an : Int32) (ro : Nat → Int64) (rv : Nat → Int32) (rd : Nat → Int64) (rc : Nat → Int32) (pn : Nat) (mo : Nat) (hln : ln < 2 ^ 18) (hpn : pn < 2 ^ 18) (hmo : mo < 2 ^ 18) : kx_Mv l yy_Rw_forget ww_Rw_forget ({ frames := 2, cells := kg_c ln pn 4, slots := kg_s ln pn mo 4, locals := 43 }) D vwCl (kx_ty cI cJ cZ) [.ref o, .int (nI pn), .int (nI mo)] [(o, .inr (6, [.int an, .ref q0, .ref q1, .ref q2, .ref q3])), (q0, .inl (cJ, ln, .inr (.inl ro))), (q1, .inl (cI, ln, .inl rv)), (q2, .inl (cJ, ln, .inr (.inl rd))), (q3, .inl (cI, ln, .inl rc))] sz (fun (u : Nat × Nat × Nat × Nat × Nat × (Nat → Int64) × (Nat → Int32) × (Nat → Int64) × (Nat → Int32)) => u.2.2.2.2.1 = kg_n ln pn mo ∧ ∀ j, j < u.2.2.2.2.1 → u.2.2.2.2.2.2.2.2 j = (-1)) (fun (u : Nat × Nat × Nat × Nat × Nat × (Nat → Int64) × (Nat → Int32) × (Nat → Int64) × (Nat → Int32)) => [(o, .inr (6, [.int (nI 0), .ref u.1, .ref u.2.1, .ref u.2.2.1, .ref u.2.2.2.1])), (u.1, .inl (cJ, u.2.2.2.2.1, .inr (.inl u.2.2.2.2.2.1))), (u.2.1, .inl (cI, u.2.2.2.2.1, .inl u.2.2.2.2.2.2.1)), (u.2.2.1, .inl (cJ, u.2.2.2.2.1, .inr (.inl u.2.2.2.2.2.2.2.1))), (u.2.2.2.1, .inl (cI, u.2.2.2.2.1, .inl u.2.2.2.2.2.2.2.2))]) (kg_c ln pn 4) (kg_s ln pn mo 4) := by
  refine kx_startv (by decide) rfl (Nat.le_of_ble_eq_true rfl) ?_
  intro p e s m below meth c A ls hx hb hr hml hts hown hlocks hin hP hK hN hD hA hS hl
  have hl : lv_has ls 3 [(0, .ref o), (1, .int (nI pn)), (2, .int (nI mo))] := hl
  have hown : s.vm.findClass rr_Rw = some m.cls := hown
  have lk0 := hts _ (kx_m kw_259)
  have hin6 : ∀ w ∈ u_ws rr_Rw tt_Rw 5, w ∈ ww_Rw_forget := fun w h => kx_m (kf_Rw w h)
  have lk2 := hts _ (kx_m kw_258)
  have lk3 := hts _ (kx_m kw_265)
  obtain ⟨H, hH⟩ : ∃ H, H = s.heap := ⟨_, rfl⟩
  obtain ⟨locs, hlocs⟩ : ∃ z : List Loc, z = [] := ⟨_, rfl⟩
  have hP : va_P D vwCl [(o, .inr (6, [.int an, .ref q0, .ref q1, .ref q2, .ref q3])), (q0, .inl (cJ, ln, .inr (.inl ro))), (q1, .inl (cI, ln, .inl rv)), (q2, .inl (cJ, ln, .inr (.inl rd))), (q3, .inl (cI, ln, .inl rc))] H := by rw [hH]; exact hP
  have hS : va_S A s.heap H locs := by rw [hH, hlocs]; exact hS
  refine kx_gen hH hlocs ?_
  clear hH hlocs
  refine kx_nameQ (fun Q hQ => ?_)
  refine lv_iload_n hx hb dd_Rw_forget_0 rfl (lv_at hl 1 rfl) ?_
  refine lv_aload_n hx hb dd_Rw_forget_1 rfl (lv_at hl 0 rfl) ?_
  refine va_get (D := D) (ci := 6) (v := .ref q0) (C := rr_Rw) (T := tt_Rw) (N := 5) hx hb hts hin6 hown hK hP 0 kg_5_0 rfl 1 (by decide) lk0 (fun _ h9 => h9) rfl dd_Rw_forget_2 ?_
  refine va_alen hx hb hK hP 1 1 kg_5_1 rfl (v := nI ln) rfl dd_Rw_forget_5 ?_
  have K23 : ∀ (p0 : Nat) (p1 : Nat) (p2 : Nat) (p3 : Nat) (lq : Nat) (u0 : Nat → Int64) (u1 : Nat → Int32) (u2 : Nat → Int64) (u3 : Nat → Int32), (lq = kg_n ln pn mo) → (lq < 2 ^ 20) → ∀ (H : Heap) (locs : List Loc), va_P D vwCl [(o, .inr (6, [.int an, .ref p0, .ref p1, .ref p2, .ref p3])), (p0, .inl (cJ, lq, .inr (.inl u0))), (p1, .inl (cI, lq, .inl u1)), (p2, .inl (cJ, lq, .inr (.inl u2))), (p3, .inl (cI, lq, .inl u3))] H → va_D A [(o, .inr (6, [.int an, .ref p0, .ref p1, .ref p2, .ref p3])), (p0, .inl (cJ, lq, .inr (.inl u0))), (p1, .inl (cI, lq, .inl u1)), (p2, .inl (cJ, lq, .inr (.inl u2))), (p3, .inl (cI, lq, .inl u3))] → va_S A s.heap H locs → ∀ (ls : Array Slot), lv_has ls 3 [(0, .ref o)] → W p l e (headSpec ww_Rw_forget { frames := 2, cells := kg_c ln pn 4, slots := kg_s ln pn mo 4, locals := 43 }).room s m ([.ref o, .int (nI pn), .int (nI mo)] : List Value).toArray below meth c H locs (kg_c ln pn 4) (kg_s ln pn mo 4) Q (F0 m 23 ls []) := by
    clear hP hD hS hl
    intro p0 p1 p2 p3 lq u0 u1 u2 u3 hlq hlq2 H locs hP hD hS ls hl
    refine lv_aload_n hx hb dd_Rw_forget_23 rfl (lv_at hl 0 rfl) ?_
    refine lv_iconst (v := nI 0) hx hb dd_Rw_forget_24 (by decide) ?_
    refine va_put (D := D) (ci := 6) (v := .int (nI 0)) (ty := .boolean) (C := rr_Rw) (T := tt_Rw) (N := 5) hx hb hts hin6 ft_Rw ft_Rw_ok nn_Rw hown hK hP hD hS 0 kg_5_0 rfl 0 (by decide) lk2 (fun _ h9 => h9) rfl (by decide +kernel) rfl rfl (Nat.le_of_ble_eq_true rfl) dd_Rw_forget_25 (fun H locs hP hD hS => ?_)
    have hP : va_P D vwCl [(o, .inr (6, [.int (nI 0), .ref p0, .ref p1, .ref p2, .ref p3])), (p0, .inl (cJ, lq, .inr (.inl u0))), (p1, .inl (cI, lq, .inl u1)), (p2, .inl (cJ, lq, .inr (.inl u2))), (p3, .inl (cI, lq, .inl u3))] H := kx_cP kz_5_0 hP
    have hD : va_D A [(o, .inr (6, [.int (nI 0), .ref p0, .ref p1, .ref p2, .ref p3])), (p0, .inl (cJ, lq, .inr (.inl u0))), (p1, .inl (cI, lq, .inl u1)), (p2, .inl (cJ, lq, .inr (.inl u2))), (p3, .inl (cI, lq, .inl u3))] := kx_cD kz_5_0 hD
    refine lv_aload_n hx hb dd_Rw_forget_28 rfl (lv_at hl 0 rfl) ?_
    refine va_get (D := D) (ci := 6) (v := .ref p3) (C := rr_Rw) (T := tt_Rw) (N := 5) hx hb hts hin6 hown hK hP 0 kg_5_0 rfl 4 (by decide) lk3 (fun _ h9 => h9) rfl dd_Rw_forget_29 ?_
    refine lv_iconst (v := (-1)) hx hb dd_Rw_forget_32 (by decide) ?_
    refine kx_callv (wr := [(o, .inr (6, [.int (nI 0), .ref p0, .ref p1, .ref p2, .ref p3])), (p0, .inl (cJ, lq, .inr (.inl u0))), (p1, .inl (cI, lq, .inl u1)), (p2, .inl (cJ, lq, .inr (.inl u2)))]) (va_runS (As := [.ref p3, .int (-1)]) (rest := []) ⟨hx, hb, hml, hown, hts⟩ (ct_Ar_fill l D cI cJ cZ H.size p3 lq u3 (-1) (by omega)) ⟨(callB_of 2 hts (kx_good kw_652) rfl rfl rfl (hts _ (kx_m kw_55)) (hts _ (kx_m kw_650)) (by decide +kernel) ⟨Nat.le_of_ble_eq_true rfl, Nat.le_of_ble_eq_true rfl⟩), (hts _ (kx_m kw_651))⟩ (kx_preS hK hN (hP.sub [4] kt_5_4) (hD.sub [4] (by decide) ks_5_4)) rfl rfl hl.1 rfl (lv_room (Nat.le_of_ble_eq_true rfl)) dd_Rw_forget_33 ⟨(by show (kg_c ln pn 4) + 0 ≤ (kg_c ln pn 4); omega), (by show (kg_s ln pn mo 4) + 0 ≤ (kg_s ln pn mo 4); omega)⟩) hP hD hS hA [4] [0, 1, 2, 3] ks_5_4 ks_5_0_1_2_3 (by decide) (by decide) (fun u33 H locs hw33 hP hD hS => ?_)
    refine kx_bud (cells := kg_c ln pn 4) (slots := kg_s ln pn mo 4) ?_ (by omega) (by omega)
    obtain ⟨f2_33, rfl⟩ : ∃ z, z = u33 := ⟨_, rfl⟩
    have hP : va_P D vwCl [(o, .inr (6, [.int (nI 0), .ref p0, .ref p1, .ref p2, .ref p3])), (p0, .inl (cJ, lq, .inr (.inl u0))), (p1, .inl (cI, lq, .inl u1)), (p2, .inl (cJ, lq, .inr (.inl u2))), (p3, .inl (cI, lq, .inl f2_33))] H := hP
    have hD : va_D A [(o, .inr (6, [.int (nI 0), .ref p0, .ref p1, .ref p2, .ref p3])), (p0, .inl (cJ, lq, .inr (.inl u0))), (p1, .inl (cI, lq, .inl u1)), (p2, .inl (cJ, lq, .inr (.inl u2))), (p3, .inl (cI, lq, .inl f2_33))] := hD
    have hw33 : ∀ j, j < lq → f2_33 j = (-1) := hw33
    rw [hQ]
    refine kx_widen (k := kg_c ln pn 4) (n := kg_s ln pn mo 4) (Nat.le_refl _) (Nat.le_refl _) ?_
    exact kx_vret hx hb hr hlocks hK hN hS dd_Rw_forget_36 (p0, p1, p2, p3, lq, u0, u1, u2, f2_33) hP hD (⟨hlq, hw33⟩)
  refine lv_icmp_le (tgt := 23) hx hb dd_Rw_forget_6 (by decide) (fun c6 => ?_) (fun c6 => ?_)
  · skip
    have c6 : pn ≤ ln := (nI_leI (by omega) (by omega)).mp c6
    refine kx_widen (k := kg_c ln pn 4) (n := kg_s ln pn mo 4) (by unfold kg_c; (first | rw [if_pos c6] | rw [if_neg c6]) <;> omega) (by unfold kg_s; (first | rw [if_pos c6] | rw [if_neg c6]) <;> omega) ?_
    exact K23 q0 q1 q2 q3 ln ro rv rd rc (by unfold kg_n; first | rw [if_pos c6] | rw [if_neg c6]) (by first | exact hln | omega) H locs hP hD hS ls (lv_sub hl [0] rfl)
  · skip
    have c6 : ¬ (pn ≤ ln) := fun h => c6 ((nI_leI (by omega) (by omega)).mpr h)
    refine lv_aload_n hx hb dd_Rw_forget_9 rfl (lv_at hl 0 rfl) ?_
    refine lv_aload_n hx hb dd_Rw_forget_10 rfl (lv_at hl 0 rfl) ?_
    refine va_get (D := D) (ci := 6) (v := .ref q0) (C := rr_Rw) (T := tt_Rw) (N := 5) hx hb hts hin6 hown hK hP 0 kg_5_0 rfl 1 (by decide) lk0 (fun _ h9 => h9) rfl dd_Rw_forget_11 ?_
    refine va_alen hx hb hK hP 1 1 kg_5_1 rfl (v := nI ln) rfl dd_Rw_forget_14 ?_
    refine lv_iload_n hx hb dd_Rw_forget_15 rfl (lv_at hl 1 rfl) ?_
    refine lv_iload_n hx hb dd_Rw_forget_16 rfl (lv_at hl 2 rfl) ?_
    refine kx_calli (wr := [(o, .inr (6, [.int an, .ref q0, .ref q1, .ref q2, .ref q3])), (q0, .inl (cJ, ln, .inr (.inl ro))), (q1, .inl (cI, ln, .inl rv)), (q2, .inl (cJ, ln, .inr (.inl rd))), (q3, .inl (cI, ln, .inl rc))]) (va_runSN (As := [.int (nI ln), .int (nI pn), .int (nI mo)]) (rest := [.ref o]) ⟨hx, hb, hml, hown, hts⟩ (ct_K_grown l D cI cJ cZ H.size ln pn mo (by omega) (by omega) (by omega)) ⟨(va_cnB 3 hts (kx_good kw_419) rfl rfl rfl (kx_n649 hN) (hts _ (kx_m kw_44)) (by decide +kernel) ⟨Nat.le_of_ble_eq_true rfl, Nat.le_of_ble_eq_true rfl⟩), (hts _ (kx_m kw_418)), trivial⟩ (kx_preS hK hN (hP.sub [] kt_5_) (hD.sub [] (by decide) ks_5_)) rfl rfl hl.1 rfl (lv_room (Nat.le_of_ble_eq_true rfl)) dd_Rw_forget_17 ⟨(by show 0 + 0 ≤ (kg_c ln pn 4); omega), (by show 0 + 0 ≤ (kg_s ln pn mo 4); omega)⟩) hP hD hS hA [] [0, 1, 2, 3, 4] ks_5_ ks_5_0_1_2_3_4 (by decide) (by decide) (fun r17 u17 H locs hw17 hP hD hS => ?_)
    refine kx_bud (cells := 0) (slots := 0) ?_ (by omega) (by omega)
    have hP : va_P D vwCl [(o, .inr (6, [.int an, .ref q0, .ref q1, .ref q2, .ref q3])), (q0, .inl (cJ, ln, .inr (.inl ro))), (q1, .inl (cI, ln, .inl rv)), (q2, .inl (cJ, ln, .inr (.inl rd))), (q3, .inl (cI, ln, .inl rc))] H := hP
    have hD : va_D A [(o, .inr (6, [.int an, .ref q0, .ref q1, .ref q2, .ref q3])), (q0, .inl (cJ, ln, .inr (.inl ro))), (q1, .inl (cI, ln, .inl rv)), (q2, .inl (cJ, ln, .inr (.inl rd))), (q3, .inl (cI, ln, .inl rc))] := hD
    have hw17 : r17 = nI (max pn (min mo (2 * ln))) := hw17
    subst hw17
    refine kx_callv (wr := [(q0, .inl (cJ, ln, .inr (.inl ro))), (q1, .inl (cI, ln, .inl rv)), (q2, .inl (cJ, ln, .inr (.inl rd))), (q3, .inl (cI, ln, .inl rc))]) (va_runV (C := rr_Rw) (As := [.int (nI (max pn (min mo (2 * ln))))]) (rest := []) ⟨hx, hb, hml, hown, hts⟩ (ct_Rw_makeRows l D cI cJ cZ H.size o an (.ref q0 : Value) (.ref q1 : Value) (.ref q2 : Value) (.ref q3 : Value) (max pn (min mo (2 * ln))) (by omega)) ⟨(callB_of 1 hts (kx_good kw_256) rfl rfl rfl (hts _ (kx_m kw_51)) (hts _ (kx_m kw_253)) (by decide +kernel) ⟨Nat.le_of_ble_eq_true rfl, Nat.le_of_ble_eq_true rfl⟩), (hts _ (kx_m kw_255)), (hts _ (kx_m kw_1))⟩ (kx_preV (ci := 6) (q0 := 0) hK hN (hP.sub [0] kt_5_0) (hD.sub [0] (by decide) ks_5_0) rfl kg_1_0) rfl rfl hl.1 rfl (lv_room (Nat.le_of_ble_eq_true rfl)) dd_Rw_forget_20 ⟨(by show 0 + 4 ≤ (kg_c ln pn 4); unfold kg_c; rw [if_neg c6]; omega), (by show 0 + (4 * (max pn (min mo (2 * ln)))) ≤ (kg_s ln pn mo 4); unfold kg_s; rw [if_neg c6]; omega)⟩) hP hD hS hA [0] [1, 2, 3, 4] ks_5_0 ks_5_1_2_3_4 (by decide) (by decide) (fun u20 H locs hw20 hP hD hS => ?_)
    refine kx_bud (cells := 4) (slots := 4 * (max pn (min mo (2 * ln)))) ?_ (by omega) (by omega)
    obtain ⟨w0_20, w1_20, w2_20, w3_20⟩ := u20
    have hP : va_P D vwCl [(q0, .inl (cJ, ln, .inr (.inl ro))), (q1, .inl (cI, ln, .inl rv)), (q2, .inl (cJ, ln, .inr (.inl rd))), (q3, .inl (cI, ln, .inl rc)), (o, .inr (6, [.int an, .ref w0_20, .ref w1_20, .ref w2_20, .ref w3_20])), (w0_20, .inl (cJ, (max pn (min mo (2 * ln))), .inr (.inl (fun _ => 0)))), (w1_20, .inl (cI, (max pn (min mo (2 * ln))), .inl (fun _ => 0))), (w2_20, .inl (cJ, (max pn (min mo (2 * ln))), .inr (.inl (fun _ => 0)))), (w3_20, .inl (cI, (max pn (min mo (2 * ln))), .inl (fun _ => 0)))] H := hP
    have hD : va_D A [(q0, .inl (cJ, ln, .inr (.inl ro))), (q1, .inl (cI, ln, .inl rv)), (q2, .inl (cJ, ln, .inr (.inl rd))), (q3, .inl (cI, ln, .inl rc)), (o, .inr (6, [.int an, .ref w0_20, .ref w1_20, .ref w2_20, .ref w3_20])), (w0_20, .inl (cJ, (max pn (min mo (2 * ln))), .inr (.inl (fun _ => 0)))), (w1_20, .inl (cI, (max pn (min mo (2 * ln))), .inl (fun _ => 0))), (w2_20, .inl (cJ, (max pn (min mo (2 * ln))), .inr (.inl (fun _ => 0)))), (w3_20, .inl (cI, (max pn (min mo (2 * ln))), .inl (fun _ => 0)))] := hD
    have hP : va_P D vwCl [(o, .inr (6, [.int an, .ref w0_20, .ref w1_20, .ref w2_20, .ref w3_20])), (q0, .inl (cJ, ln, .inr (.inl ro))), (q1, .inl (cI, ln, .inl rv)), (q2, .inl (cJ, ln, .inr (.inl rd))), (q3, .inl (cI, ln, .inl rc)), (w0_20, .inl (cJ, (max pn (min mo (2 * ln))), .inr (.inl (fun _ => 0)))), (w1_20, .inl (cI, (max pn (min mo (2 * ln))), .inl (fun _ => 0))), (w2_20, .inl (cJ, (max pn (min mo (2 * ln))), .inr (.inl (fun _ => 0)))), (w3_20, .inl (cI, (max pn (min mo (2 * ln))), .inl (fun _ => 0)))] H := hP.sub [4, 0, 1, 2, 3, 5, 6, 7, 8] kt_9_4_0_1_2_3_5_6_7_8
    have hD : va_D A [(o, .inr (6, [.int an, .ref w0_20, .ref w1_20, .ref w2_20, .ref w3_20])), (q0, .inl (cJ, ln, .inr (.inl ro))), (q1, .inl (cI, ln, .inl rv)), (q2, .inl (cJ, ln, .inr (.inl rd))), (q3, .inl (cI, ln, .inl rc)), (w0_20, .inl (cJ, (max pn (min mo (2 * ln))), .inr (.inl (fun _ => 0)))), (w1_20, .inl (cI, (max pn (min mo (2 * ln))), .inl (fun _ => 0))), (w2_20, .inl (cJ, (max pn (min mo (2 * ln))), .inr (.inl (fun _ => 0)))), (w3_20, .inl (cI, (max pn (min mo (2 * ln))), .inl (fun _ => 0)))] := hD.sub [4, 0, 1, 2, 3, 5, 6, 7, 8] (by decide) ks_9_4_0_1_2_3_5_6_7_8
    have hP : va_P D vwCl [(o, .inr (6, [.int an, .ref w0_20, .ref w1_20, .ref w2_20, .ref w3_20])), (w0_20, .inl (cJ, (max pn (min mo (2 * ln))), .inr (.inl (fun _ => 0)))), (w1_20, .inl (cI, (max pn (min mo (2 * ln))), .inl (fun _ => 0))), (w2_20, .inl (cJ, (max pn (min mo (2 * ln))), .inr (.inl (fun _ => 0)))), (w3_20, .inl (cI, (max pn (min mo (2 * ln))), .inl (fun _ => 0)))] H := hP.sub [0, 5, 6, 7, 8] kt_9_0_5_6_7_8
    have hD : va_D A [(o, .inr (6, [.int an, .ref w0_20, .ref w1_20, .ref w2_20, .ref w3_20])), (w0_20, .inl (cJ, (max pn (min mo (2 * ln))), .inr (.inl (fun _ => 0)))), (w1_20, .inl (cI, (max pn (min mo (2 * ln))), .inl (fun _ => 0))), (w2_20, .inl (cJ, (max pn (min mo (2 * ln))), .inr (.inl (fun _ => 0)))), (w3_20, .inl (cI, (max pn (min mo (2 * ln))), .inl (fun _ => 0)))] := hD.sub [0, 5, 6, 7, 8] (by decide) ks_9_0_5_6_7_8
    refine kx_widen (k := kg_c ln pn 4) (n := kg_s ln pn mo 4) (by unfold kg_c; (first | rw [if_pos c6] | rw [if_neg c6]) <;> omega) (by unfold kg_s; (first | rw [if_pos c6] | rw [if_neg c6]) <;> omega) ?_
    exact K23 w0_20 w1_20 w2_20 w3_20 (max pn (min mo (2 * ln))) (fun _ => 0) (fun _ => 0) (fun _ => 0) (fun _ => 0) (by unfold kg_n; first | rw [if_pos c6] | rw [if_neg c6]) (by first | exact hln | omega) H locs hP hD hS ls (lv_sub hl [0] rfl)

theorem dd_Se_noteEnd_0 : decode bb_Se_noteEnd 0 = .ok (.aload_n 0, 1) := by decide +kernel
theorem dd_Se_noteEnd_1 : decode bb_Se_noteEnd 1 = .ok (.getfield 38, 3) := by decide +kernel
theorem dd_Se_noteEnd_4 : decode bb_Se_noteEnd 4 = .ok (.iconst 1, 1) := by decide +kernel
theorem dd_Se_noteEnd_5 : decode bb_Se_noteEnd 5 = .ok (.iconst 1, 1) := by decide +kernel
theorem dd_Se_noteEnd_6 : decode bb_Se_noteEnd 6 = .ok (.invokevirtual 136, 3) := by decide +kernel
theorem dd_Se_noteEnd_9 : decode bb_Se_noteEnd 9 = .ok (.iconst 0, 1) := by decide +kernel
theorem dd_Se_noteEnd_10 : decode bb_Se_noteEnd 10 = .ok (.istore_n 2, 1) := by decide +kernel
theorem dd_Se_noteEnd_11 : decode bb_Se_noteEnd 11 = .ok (.iload_n 2, 1) := by decide +kernel
theorem dd_Se_noteEnd_12 : decode bb_Se_noteEnd 12 = .ok (.iconst 4, 1) := by decide +kernel
theorem dd_Se_noteEnd_13 : decode bb_Se_noteEnd 13 = .ok (.if_icmp .ge (86), 3) := by decide +kernel
theorem dd_Se_noteEnd_16 : decode bb_Se_noteEnd 16 = .ok (.aload_n 0, 1) := by decide +kernel
theorem dd_Se_noteEnd_17 : decode bb_Se_noteEnd 17 = .ok (.getfield 22, 3) := by decide +kernel
theorem dd_Se_noteEnd_20 : decode bb_Se_noteEnd 20 = .ok (.getfield 69, 3) := by decide +kernel
theorem dd_Se_noteEnd_23 : decode bb_Se_noteEnd 23 = .ok (.iconst 4, 1) := by decide +kernel
theorem dd_Se_noteEnd_24 : decode bb_Se_noteEnd 24 = .ok (.imul, 1) := by decide +kernel
theorem dd_Se_noteEnd_25 : decode bb_Se_noteEnd 25 = .ok (.iload_n 2, 1) := by decide +kernel
theorem dd_Se_noteEnd_26 : decode bb_Se_noteEnd 26 = .ok (.iadd, 1) := by decide +kernel
theorem dd_Se_noteEnd_27 : decode bb_Se_noteEnd 27 = .ok (.istore_n 3, 1) := by decide +kernel
theorem dd_Se_noteEnd_28 : decode bb_Se_noteEnd 28 = .ok (.aload_n 0, 1) := by decide +kernel
theorem dd_Se_noteEnd_29 : decode bb_Se_noteEnd 29 = .ok (.getfield 48, 3) := by decide +kernel
theorem dd_Se_noteEnd_32 : decode bb_Se_noteEnd 32 = .ok (.iload_n 3, 1) := by decide +kernel
theorem dd_Se_noteEnd_33 : decode bb_Se_noteEnd 33 = .ok (.invokevirtual 183, 3) := by decide +kernel
theorem dd_Se_noteEnd_36 : decode bb_Se_noteEnd 36 = .ok (.ifCond .eq (57), 3) := by decide +kernel
theorem dd_Se_noteEnd_39 : decode bb_Se_noteEnd 39 = .ok (.aload_n 0, 1) := by decide +kernel
theorem dd_Se_noteEnd_40 : decode bb_Se_noteEnd 40 = .ok (.getfield 38, 3) := by decide +kernel
theorem dd_Se_noteEnd_43 : decode bb_Se_noteEnd 43 = .ok (.iconst 0, 1) := by decide +kernel
theorem dd_Se_noteEnd_44 : decode bb_Se_noteEnd 44 = .ok (.aload_n 0, 1) := by decide +kernel
theorem dd_Se_noteEnd_45 : decode bb_Se_noteEnd 45 = .ok (.getfield 48, 3) := by decide +kernel
theorem dd_Se_noteEnd_48 : decode bb_Se_noteEnd 48 = .ok (.getfield 186, 3) := by decide +kernel
theorem dd_Se_noteEnd_51 : decode bb_Se_noteEnd 51 = .ok (.iload_n 3, 1) := by decide +kernel
theorem dd_Se_noteEnd_52 : decode bb_Se_noteEnd 52 = .ok (.laload, 1) := by decide +kernel
theorem dd_Se_noteEnd_53 : decode bb_Se_noteEnd 53 = .ok (.aload_n 0, 1) := by decide +kernel
theorem dd_Se_noteEnd_54 : decode bb_Se_noteEnd 54 = .ok (.getfield 48, 3) := by decide +kernel
theorem dd_Se_noteEnd_57 : decode bb_Se_noteEnd 57 = .ok (.getfield 189, 3) := by decide +kernel
theorem dd_Se_noteEnd_60 : decode bb_Se_noteEnd 60 = .ok (.iload_n 3, 1) := by decide +kernel
theorem dd_Se_noteEnd_61 : decode bb_Se_noteEnd 61 = .ok (.iaload, 1) := by decide +kernel
theorem dd_Se_noteEnd_62 : decode bb_Se_noteEnd 62 = .ok (.aload_n 0, 1) := by decide +kernel
theorem dd_Se_noteEnd_63 : decode bb_Se_noteEnd 63 = .ok (.getfield 48, 3) := by decide +kernel
theorem dd_Se_noteEnd_66 : decode bb_Se_noteEnd 66 = .ok (.getfield 192, 3) := by decide +kernel
theorem dd_Se_noteEnd_69 : decode bb_Se_noteEnd 69 = .ok (.iload_n 3, 1) := by decide +kernel
theorem dd_Se_noteEnd_70 : decode bb_Se_noteEnd 70 = .ok (.laload, 1) := by decide +kernel
theorem dd_Se_noteEnd_71 : decode bb_Se_noteEnd 71 = .ok (.aload_n 0, 1) := by decide +kernel
theorem dd_Se_noteEnd_72 : decode bb_Se_noteEnd 72 = .ok (.getfield 48, 3) := by decide +kernel
theorem dd_Se_noteEnd_75 : decode bb_Se_noteEnd 75 = .ok (.getfield 91, 3) := by decide +kernel
theorem dd_Se_noteEnd_78 : decode bb_Se_noteEnd 78 = .ok (.iload_n 3, 1) := by decide +kernel
theorem dd_Se_noteEnd_79 : decode bb_Se_noteEnd 79 = .ok (.iaload, 1) := by decide +kernel
theorem dd_Se_noteEnd_80 : decode bb_Se_noteEnd 80 = .ok (.invokevirtual 118, 3) := by decide +kernel
theorem dd_Se_noteEnd_83 : decode bb_Se_noteEnd 83 = .ok (.ifCond .eq (10), 3) := by decide +kernel
theorem dd_Se_noteEnd_86 : decode bb_Se_noteEnd 86 = .ok (.aload_n 0, 1) := by decide +kernel
theorem dd_Se_noteEnd_87 : decode bb_Se_noteEnd 87 = .ok (.getfield 51, 3) := by decide +kernel
theorem dd_Se_noteEnd_90 : decode bb_Se_noteEnd 90 = .ok (.iload_n 1, 1) := by decide +kernel
theorem dd_Se_noteEnd_91 : decode bb_Se_noteEnd 91 = .ok (.iload_n 2, 1) := by decide +kernel
theorem dd_Se_noteEnd_92 : decode bb_Se_noteEnd 92 = .ok (.iastore, 1) := by decide +kernel
theorem dd_Se_noteEnd_93 : decode bb_Se_noteEnd 93 = .ok (.iinc 2 (1), 3) := by decide +kernel
theorem dd_Se_noteEnd_96 : decode bb_Se_noteEnd 96 = .ok (.goto (-85), 3) := by decide +kernel
theorem dd_Se_noteEnd_99 : decode bb_Se_noteEnd 99 = .ok (.aload_n 0, 1) := by decide +kernel
theorem dd_Se_noteEnd_100 : decode bb_Se_noteEnd 100 = .ok (.getfield 38, 3) := by decide +kernel
theorem dd_Se_noteEnd_103 : decode bb_Se_noteEnd 103 = .ok (.getfield 87, 3) := by decide +kernel
theorem dd_Se_noteEnd_106 : decode bb_Se_noteEnd 106 = .ok (.ifCond .eq (55), 3) := by decide +kernel
theorem dd_Se_noteEnd_109 : decode bb_Se_noteEnd 109 = .ok (.aload_n 0, 1) := by decide +kernel
theorem dd_Se_noteEnd_110 : decode bb_Se_noteEnd 110 = .ok (.getfield 42, 3) := by decide +kernel
theorem dd_Se_noteEnd_113 : decode bb_Se_noteEnd 113 = .ok (.iconst 0, 1) := by decide +kernel
theorem dd_Se_noteEnd_114 : decode bb_Se_noteEnd 114 = .ok (.aload_n 0, 1) := by decide +kernel
theorem dd_Se_noteEnd_115 : decode bb_Se_noteEnd 115 = .ok (.getfield 38, 3) := by decide +kernel
theorem dd_Se_noteEnd_118 : decode bb_Se_noteEnd 118 = .ok (.getfield 186, 3) := by decide +kernel
theorem dd_Se_noteEnd_121 : decode bb_Se_noteEnd 121 = .ok (.iconst 0, 1) := by decide +kernel
theorem dd_Se_noteEnd_122 : decode bb_Se_noteEnd 122 = .ok (.laload, 1) := by decide +kernel
theorem dd_Se_noteEnd_123 : decode bb_Se_noteEnd 123 = .ok (.aload_n 0, 1) := by decide +kernel
theorem dd_Se_noteEnd_124 : decode bb_Se_noteEnd 124 = .ok (.getfield 38, 3) := by decide +kernel
theorem dd_Se_noteEnd_127 : decode bb_Se_noteEnd 127 = .ok (.getfield 189, 3) := by decide +kernel
theorem dd_Se_noteEnd_130 : decode bb_Se_noteEnd 130 = .ok (.iconst 0, 1) := by decide +kernel
theorem dd_Se_noteEnd_131 : decode bb_Se_noteEnd 131 = .ok (.iaload, 1) := by decide +kernel
theorem dd_Se_noteEnd_132 : decode bb_Se_noteEnd 132 = .ok (.aload_n 0, 1) := by decide +kernel
theorem dd_Se_noteEnd_133 : decode bb_Se_noteEnd 133 = .ok (.getfield 38, 3) := by decide +kernel
theorem dd_Se_noteEnd_136 : decode bb_Se_noteEnd 136 = .ok (.getfield 192, 3) := by decide +kernel
theorem dd_Se_noteEnd_139 : decode bb_Se_noteEnd 139 = .ok (.iconst 0, 1) := by decide +kernel
theorem dd_Se_noteEnd_140 : decode bb_Se_noteEnd 140 = .ok (.laload, 1) := by decide +kernel
theorem dd_Se_noteEnd_141 : decode bb_Se_noteEnd 141 = .ok (.aload_n 0, 1) := by decide +kernel
theorem dd_Se_noteEnd_142 : decode bb_Se_noteEnd 142 = .ok (.getfield 38, 3) := by decide +kernel
theorem dd_Se_noteEnd_145 : decode bb_Se_noteEnd 145 = .ok (.getfield 91, 3) := by decide +kernel
theorem dd_Se_noteEnd_148 : decode bb_Se_noteEnd 148 = .ok (.iconst 0, 1) := by decide +kernel
theorem dd_Se_noteEnd_149 : decode bb_Se_noteEnd 149 = .ok (.iaload, 1) := by decide +kernel
theorem dd_Se_noteEnd_150 : decode bb_Se_noteEnd 150 = .ok (.invokevirtual 118, 3) := by decide +kernel
theorem dd_Se_noteEnd_153 : decode bb_Se_noteEnd 153 = .ok (.ifCond .eq (8), 3) := by decide +kernel
theorem dd_Se_noteEnd_156 : decode bb_Se_noteEnd 156 = .ok (.aload_n 0, 1) := by decide +kernel
theorem dd_Se_noteEnd_157 : decode bb_Se_noteEnd 157 = .ok (.iload_n 1, 1) := by decide +kernel
theorem dd_Se_noteEnd_158 : decode bb_Se_noteEnd 158 = .ok (.putfield 106, 3) := by decide +kernel
theorem dd_Se_noteEnd_161 : decode bb_Se_noteEnd 161 = .ok (.return_, 1) := by decide +kernel

set_option maxHeartbeats 4000000 in
set_option maxRecDepth 100000 in
theorem ct_Se_noteEnd (l : Launch) (D : va_G) (cI cJ cZ : ClassId) (sz : Nat) (h : Nat) (t : Nat) (v1 : Nat) (v2 : Nat) (v3 : Nat) (v4 : Nat) (v5 : Nat) (v6 : Nat) (v7 : Nat) (ps : Nat) (ly : Nat) (op : Int32) (pl : Nat) (wl : Nat) (wc : Nat) (g : Nat) (k : Nat) (f : Nat) (bn : Nat) (lf : Nat) (j1 : Nat) (j2 : Nat) (j3 : Nat) (j4 : Nat) (j5 : Nat) (j6 : Nat) (j7 : Nat) (ql0 : Nat) (ql1 : Nat) (ql2 : Nat) (ql3 : Nat) (zl : Nat) (anl : Int32) (rol : Nat → Int64) (rvl : Nat → Int32) (rdl : Nat → Int64) (rcl : Nat → Int32) (qs0 : Nat) (qs1 : Nat) (qs2 : Nat) (qs3 : Nat) (zs : Nat) (ans : Int32) (ros : Nat → Int64) (rvs : Nat → Int32) (rds : Nat → Int64) (rcs : Nat → Int32) (qn0 : Nat) (qn1 : Nat) (qn2 : Nat) (qn3 : Nat) (zn : Nat) (ann : Int32) (ron : Nat → Int64) (rvn : Nat → Int32) (rdn : Nat → Int64) (rcn : Nat → Int32) (le : Nat) (ec : Nat → Int32) (n : Nat) (Z : Nat → ke_R) (KB : Nat → Option ke_K) (rb : ke_R) (hzl : zl = 1) (hzs : zs = 1) (hzn : bn * 4 + 4 ≤ zn) (hzn2 : zn < 2 ^ 20) (hn : n < le) (hn1 : 1 ≤ n) (hle : le < 2 ^ 20) (hZ : ∀ z, z < 4 → kv_ ron rvn rdn rcn (bn * 4 + z) ((Z z).map Prod.snd)) (hKB : qb_is ke_T KB (n - 1) rb) (hrb : kv_ ros rvs rds rcs 0 (rb.map Prod.snd)) (has : ka_ 1 ans rcs) (hwl : ∀ z, rb = some z → wl = z.1 + 1) : kx_Mv l yy_Se_noteEnd ww_Se_noteEnd ({ frames := 2, cells := 0, slots := 0, locals := 54 }) D vwCl (kx_ty cI cJ cZ) [.ref h, .int (nI n)] [(h, .inr (7, [.ref g, .ref t, .ref k, .ref f, .ref v1, .ref v2, .ref v3, .ref v4, .int (nI ps), .int (nI ly), .int op, .int (nI pl), .int (nI wl), .int (nI wc), .ref v5, .ref v6, .ref v7])), (k, .inr (2, [.int (nI bn), .int (nI lf), .ref j1, .ref j2, .ref j3, .ref j4, .ref j5, .ref j6, .ref j7])), (v1, .inr (6, [.int anl, .ref ql0, .ref ql1, .ref ql2, .ref ql3])), (ql0, .inl (cJ, zl, .inr (.inl rol))), (ql1, .inl (cI, zl, .inl rvl)), (ql2, .inl (cJ, zl, .inr (.inl rdl))), (ql3, .inl (cI, zl, .inl rcl)), (v2, .inr (6, [.int ans, .ref qs0, .ref qs1, .ref qs2, .ref qs3])), (qs0, .inl (cJ, zs, .inr (.inl ros))), (qs1, .inl (cI, zs, .inl rvs)), (qs2, .inl (cJ, zs, .inr (.inl rds))), (qs3, .inl (cI, zs, .inl rcs)), (v4, .inr (6, [.int ann, .ref qn0, .ref qn1, .ref qn2, .ref qn3])), (qn0, .inl (cJ, zn, .inr (.inl ron))), (qn1, .inl (cI, zn, .inl rvn)), (qn2, .inl (cJ, zn, .inr (.inl rdn))), (qn3, .inl (cI, zn, .inl rcn)), (v5, .inl (cI, le, .inl ec))] sz (fun (u : Int32 × (Nat → Int64) × (Nat → Int32) × (Nat → Int64) × (Nat → Int32) × Int32 × (Nat → Int64) × (Nat → Int32) × (Nat → Int64) × (Nat → Int32) × (Nat → Int32) × Nat) => ∃ r rb2, qb_is ke_T (fun z => (Z z).map Prod.snd) 4 r ∧ u.2.2.2.2.2.2.2.2.2.2.1 = kn_ec ec n r ∧ kv_ u.2.2.2.2.2.2.1 u.2.2.2.2.2.2.2.1 u.2.2.2.2.2.2.2.2.1 u.2.2.2.2.2.2.2.2.2.1 0 (rb2.map Prod.snd) ∧ ka_ 1 u.2.2.2.2.2.1 u.2.2.2.2.2.2.2.2.2.1 ∧ kn_b KB (n - 1) r rb2 ∧ ∀ z, rb2 = some z → u.2.2.2.2.2.2.2.2.2.2.2 = z.1 + 1) (fun (u : Int32 × (Nat → Int64) × (Nat → Int32) × (Nat → Int64) × (Nat → Int32) × Int32 × (Nat → Int64) × (Nat → Int32) × (Nat → Int64) × (Nat → Int32) × (Nat → Int32) × Nat) => [(h, .inr (7, [.ref g, .ref t, .ref k, .ref f, .ref v1, .ref v2, .ref v3, .ref v4, .int (nI ps), .int (nI ly), .int op, .int (nI pl), .int (nI u.2.2.2.2.2.2.2.2.2.2.2), .int (nI wc), .ref v5, .ref v6, .ref v7])), (k, .inr (2, [.int (nI bn), .int (nI lf), .ref j1, .ref j2, .ref j3, .ref j4, .ref j5, .ref j6, .ref j7])), (v1, .inr (6, [.int u.1, .ref ql0, .ref ql1, .ref ql2, .ref ql3])), (ql0, .inl (cJ, zl, .inr (.inl u.2.1))), (ql1, .inl (cI, zl, .inl u.2.2.1)), (ql2, .inl (cJ, zl, .inr (.inl u.2.2.2.1))), (ql3, .inl (cI, zl, .inl u.2.2.2.2.1)), (v2, .inr (6, [.int u.2.2.2.2.2.1, .ref qs0, .ref qs1, .ref qs2, .ref qs3])), (qs0, .inl (cJ, zs, .inr (.inl u.2.2.2.2.2.2.1))), (qs1, .inl (cI, zs, .inl u.2.2.2.2.2.2.2.1)), (qs2, .inl (cJ, zs, .inr (.inl u.2.2.2.2.2.2.2.2.1))), (qs3, .inl (cI, zs, .inl u.2.2.2.2.2.2.2.2.2.1)), (v4, .inr (6, [.int ann, .ref qn0, .ref qn1, .ref qn2, .ref qn3])), (qn0, .inl (cJ, zn, .inr (.inl ron))), (qn1, .inl (cI, zn, .inl rvn)), (qn2, .inl (cJ, zn, .inr (.inl rdn))), (qn3, .inl (cI, zn, .inl rcn)), (v5, .inl (cI, le, .inl u.2.2.2.2.2.2.2.2.2.2.1))]) 0 0 := by
  refine kx_startv (by decide) rfl (Nat.le_of_ble_eq_true rfl) ?_
  intro p e s m below meth c A ls hx hb hr hml hts hown hlocks hin hP hK hN hD hA hS hl
  have hl : lv_has ls 4 [(0, .ref h), (1, .int (nI n))] := hl
  have hown : s.vm.findClass rr_Se = some m.cls := hown
  have lk0 := hts _ (kx_m kw_285)
  have hin7 : ∀ w ∈ u_ws rr_Se tt_Se 17, w ∈ ww_Se_noteEnd := fun w h => kx_m (kf_Se w h)
  have lk2 := hts _ (kx_m kw_257)
  have hin6 : ∀ w ∈ u_ws rr_Rw tt_Rw 5, w ∈ ww_Se_noteEnd := fun w h => kx_m (kf_Rw w h)
  have lk4 := hts _ (kx_m kw_286)
  have lk5 := hts _ (kx_m kw_260)
  have lk6 := hts _ (kx_m kw_262)
  have lk7 := hts _ (kx_m kw_264)
  have lk8 := hts _ (kx_m kw_266)
  have lk9 := hts _ (kx_m kw_293)
  have lk10 := hts _ (kx_m kw_282)
  have lk11 := hts _ (kx_m kw_188)
  have hin2 : ∀ w ∈ u_ws rr_Bk tt_Bk 9, w ∈ ww_Se_noteEnd := fun w h => kx_m (kf_Bk w h)
  have lk13 := hts _ (kx_m kw_288)
  have lk14 := hts _ (kx_m kw_295)
  obtain ⟨H, hH⟩ : ∃ H, H = s.heap := ⟨_, rfl⟩
  obtain ⟨locs, hlocs⟩ : ∃ z : List Loc, z = [] := ⟨_, rfl⟩
  have hP : va_P D vwCl [(h, .inr (7, [.ref g, .ref t, .ref k, .ref f, .ref v1, .ref v2, .ref v3, .ref v4, .int (nI ps), .int (nI ly), .int op, .int (nI pl), .int (nI wl), .int (nI wc), .ref v5, .ref v6, .ref v7])), (k, .inr (2, [.int (nI bn), .int (nI lf), .ref j1, .ref j2, .ref j3, .ref j4, .ref j5, .ref j6, .ref j7])), (v1, .inr (6, [.int anl, .ref ql0, .ref ql1, .ref ql2, .ref ql3])), (ql0, .inl (cJ, zl, .inr (.inl rol))), (ql1, .inl (cI, zl, .inl rvl)), (ql2, .inl (cJ, zl, .inr (.inl rdl))), (ql3, .inl (cI, zl, .inl rcl)), (v2, .inr (6, [.int ans, .ref qs0, .ref qs1, .ref qs2, .ref qs3])), (qs0, .inl (cJ, zs, .inr (.inl ros))), (qs1, .inl (cI, zs, .inl rvs)), (qs2, .inl (cJ, zs, .inr (.inl rds))), (qs3, .inl (cI, zs, .inl rcs)), (v4, .inr (6, [.int ann, .ref qn0, .ref qn1, .ref qn2, .ref qn3])), (qn0, .inl (cJ, zn, .inr (.inl ron))), (qn1, .inl (cI, zn, .inl rvn)), (qn2, .inl (cJ, zn, .inr (.inl rdn))), (qn3, .inl (cI, zn, .inl rcn)), (v5, .inl (cI, le, .inl ec))] H := by rw [hH]; exact hP
  have hS : va_S A s.heap H locs := by rw [hH, hlocs]; exact hS
  refine kx_gen hH hlocs ?_
  clear hH hlocs
  refine kx_nameQ (fun Q hQ => ?_)
  refine lv_aload_n hx hb dd_Se_noteEnd_0 rfl (lv_at hl 0 rfl) ?_
  refine va_get (D := D) (ci := 7) (v := .ref v1) (C := rr_Se) (T := tt_Se) (N := 17) hx hb hts hin7 hown hK hP 0 kg_18_0 rfl 4 (by decide) lk0 (fun _ h9 => h9) rfl dd_Se_noteEnd_1 ?_
  refine lv_iconst (v := nI 1) hx hb dd_Se_noteEnd_4 (by decide) ?_
  refine lv_iconst (v := nI 1) hx hb dd_Se_noteEnd_5 (by decide) ?_
  refine kx_callv (wr := [(h, .inr (7, [.ref g, .ref t, .ref k, .ref f, .ref v1, .ref v2, .ref v3, .ref v4, .int (nI ps), .int (nI ly), .int op, .int (nI pl), .int (nI wl), .int (nI wc), .ref v5, .ref v6, .ref v7])), (k, .inr (2, [.int (nI bn), .int (nI lf), .ref j1, .ref j2, .ref j3, .ref j4, .ref j5, .ref j6, .ref j7])), (v2, .inr (6, [.int ans, .ref qs0, .ref qs1, .ref qs2, .ref qs3])), (qs0, .inl (cJ, zs, .inr (.inl ros))), (qs1, .inl (cI, zs, .inl rvs)), (qs2, .inl (cJ, zs, .inr (.inl rds))), (qs3, .inl (cI, zs, .inl rcs)), (v4, .inr (6, [.int ann, .ref qn0, .ref qn1, .ref qn2, .ref qn3])), (qn0, .inl (cJ, zn, .inr (.inl ron))), (qn1, .inl (cI, zn, .inl rvn)), (qn2, .inl (cJ, zn, .inr (.inl rdn))), (qn3, .inl (cI, zn, .inl rcn)), (v5, .inl (cI, le, .inl ec))]) (va_runV (C := rr_Rw) (As := [.int (nI 1), .int (nI 1)]) (rest := []) ⟨hx, hb, hml, hown, hts⟩ (ct_Rw_forget_s l D cI cJ cZ H.size v1 ql0 ql1 ql2 ql3 zl anl rol rvl rdl rcl 1 1 (by omega) (by omega)) ⟨(callB_of 2 hts (kx_good kw_648) rfl rfl rfl (hts _ (kx_m kw_51)) (hts _ (kx_m kw_645)) (by decide +kernel) ⟨Nat.le_of_ble_eq_true rfl, Nat.le_of_ble_eq_true rfl⟩), (hts _ (kx_m kw_646)), (hts _ (kx_m kw_647))⟩ (kx_preV (ci := 6) (q0 := 0) hK hN (hP.sub [2, 3, 4, 5, 6] kt_18_2_3_4_5_6) (hD.sub [2, 3, 4, 5, 6] (by decide) ks_18_2_3_4_5_6) rfl kg_5_0) rfl rfl hl.1 rfl (lv_room (Nat.le_of_ble_eq_true rfl)) dd_Se_noteEnd_6 ⟨Nat.le_of_ble_eq_true rfl, Nat.le_of_ble_eq_true rfl⟩) hP hD hS hA [2, 3, 4, 5, 6] [0, 1, 7, 8, 9, 10, 11, 12, 13, 14, 15, 16, 17] ks_18_2_3_4_5_6 ks_18_0_1_7_8_9_10_11_12_13_14_15_16_17 (by decide) (by decide) (fun u6 H locs hw6 hP hD hS => ?_)
  obtain ⟨rc2_6, rfl⟩ : ∃ z, z = u6 := ⟨_, rfl⟩
  have hP : va_P D vwCl [(h, .inr (7, [.ref g, .ref t, .ref k, .ref f, .ref v1, .ref v2, .ref v3, .ref v4, .int (nI ps), .int (nI ly), .int op, .int (nI pl), .int (nI wl), .int (nI wc), .ref v5, .ref v6, .ref v7])), (k, .inr (2, [.int (nI bn), .int (nI lf), .ref j1, .ref j2, .ref j3, .ref j4, .ref j5, .ref j6, .ref j7])), (v2, .inr (6, [.int ans, .ref qs0, .ref qs1, .ref qs2, .ref qs3])), (qs0, .inl (cJ, zs, .inr (.inl ros))), (qs1, .inl (cI, zs, .inl rvs)), (qs2, .inl (cJ, zs, .inr (.inl rds))), (qs3, .inl (cI, zs, .inl rcs)), (v4, .inr (6, [.int ann, .ref qn0, .ref qn1, .ref qn2, .ref qn3])), (qn0, .inl (cJ, zn, .inr (.inl ron))), (qn1, .inl (cI, zn, .inl rvn)), (qn2, .inl (cJ, zn, .inr (.inl rdn))), (qn3, .inl (cI, zn, .inl rcn)), (v5, .inl (cI, le, .inl ec)), (v1, .inr (6, [.int (nI 0), .ref ql0, .ref ql1, .ref ql2, .ref ql3])), (ql0, .inl (cJ, zl, .inr (.inl rol))), (ql1, .inl (cI, zl, .inl rvl)), (ql2, .inl (cJ, zl, .inr (.inl rdl))), (ql3, .inl (cI, zl, .inl rc2_6))] H := hP
  have hD : va_D A [(h, .inr (7, [.ref g, .ref t, .ref k, .ref f, .ref v1, .ref v2, .ref v3, .ref v4, .int (nI ps), .int (nI ly), .int op, .int (nI pl), .int (nI wl), .int (nI wc), .ref v5, .ref v6, .ref v7])), (k, .inr (2, [.int (nI bn), .int (nI lf), .ref j1, .ref j2, .ref j3, .ref j4, .ref j5, .ref j6, .ref j7])), (v2, .inr (6, [.int ans, .ref qs0, .ref qs1, .ref qs2, .ref qs3])), (qs0, .inl (cJ, zs, .inr (.inl ros))), (qs1, .inl (cI, zs, .inl rvs)), (qs2, .inl (cJ, zs, .inr (.inl rds))), (qs3, .inl (cI, zs, .inl rcs)), (v4, .inr (6, [.int ann, .ref qn0, .ref qn1, .ref qn2, .ref qn3])), (qn0, .inl (cJ, zn, .inr (.inl ron))), (qn1, .inl (cI, zn, .inl rvn)), (qn2, .inl (cJ, zn, .inr (.inl rdn))), (qn3, .inl (cI, zn, .inl rcn)), (v5, .inl (cI, le, .inl ec)), (v1, .inr (6, [.int (nI 0), .ref ql0, .ref ql1, .ref ql2, .ref ql3])), (ql0, .inl (cJ, zl, .inr (.inl rol))), (ql1, .inl (cI, zl, .inl rvl)), (ql2, .inl (cJ, zl, .inr (.inl rdl))), (ql3, .inl (cI, zl, .inl rc2_6))] := hD
  have hP : va_P D vwCl [(h, .inr (7, [.ref g, .ref t, .ref k, .ref f, .ref v1, .ref v2, .ref v3, .ref v4, .int (nI ps), .int (nI ly), .int op, .int (nI pl), .int (nI wl), .int (nI wc), .ref v5, .ref v6, .ref v7])), (k, .inr (2, [.int (nI bn), .int (nI lf), .ref j1, .ref j2, .ref j3, .ref j4, .ref j5, .ref j6, .ref j7])), (v1, .inr (6, [.int (nI 0), .ref ql0, .ref ql1, .ref ql2, .ref ql3])), (ql0, .inl (cJ, zl, .inr (.inl rol))), (ql1, .inl (cI, zl, .inl rvl)), (ql2, .inl (cJ, zl, .inr (.inl rdl))), (ql3, .inl (cI, zl, .inl rc2_6)), (v2, .inr (6, [.int ans, .ref qs0, .ref qs1, .ref qs2, .ref qs3])), (qs0, .inl (cJ, zs, .inr (.inl ros))), (qs1, .inl (cI, zs, .inl rvs)), (qs2, .inl (cJ, zs, .inr (.inl rds))), (qs3, .inl (cI, zs, .inl rcs)), (v4, .inr (6, [.int ann, .ref qn0, .ref qn1, .ref qn2, .ref qn3])), (qn0, .inl (cJ, zn, .inr (.inl ron))), (qn1, .inl (cI, zn, .inl rvn)), (qn2, .inl (cJ, zn, .inr (.inl rdn))), (qn3, .inl (cI, zn, .inl rcn)), (v5, .inl (cI, le, .inl ec))] H := hP.sub [0, 1, 13, 14, 15, 16, 17, 2, 3, 4, 5, 6, 7, 8, 9, 10, 11, 12] kt_18_0_1_13_14_15_16_17_2_3_4_5_6_7_8_9_10_11_12
  have hD : va_D A [(h, .inr (7, [.ref g, .ref t, .ref k, .ref f, .ref v1, .ref v2, .ref v3, .ref v4, .int (nI ps), .int (nI ly), .int op, .int (nI pl), .int (nI wl), .int (nI wc), .ref v5, .ref v6, .ref v7])), (k, .inr (2, [.int (nI bn), .int (nI lf), .ref j1, .ref j2, .ref j3, .ref j4, .ref j5, .ref j6, .ref j7])), (v1, .inr (6, [.int (nI 0), .ref ql0, .ref ql1, .ref ql2, .ref ql3])), (ql0, .inl (cJ, zl, .inr (.inl rol))), (ql1, .inl (cI, zl, .inl rvl)), (ql2, .inl (cJ, zl, .inr (.inl rdl))), (ql3, .inl (cI, zl, .inl rc2_6)), (v2, .inr (6, [.int ans, .ref qs0, .ref qs1, .ref qs2, .ref qs3])), (qs0, .inl (cJ, zs, .inr (.inl ros))), (qs1, .inl (cI, zs, .inl rvs)), (qs2, .inl (cJ, zs, .inr (.inl rds))), (qs3, .inl (cI, zs, .inl rcs)), (v4, .inr (6, [.int ann, .ref qn0, .ref qn1, .ref qn2, .ref qn3])), (qn0, .inl (cJ, zn, .inr (.inl ron))), (qn1, .inl (cI, zn, .inl rvn)), (qn2, .inl (cJ, zn, .inr (.inl rdn))), (qn3, .inl (cI, zn, .inl rcn)), (v5, .inl (cI, le, .inl ec))] := hD.sub [0, 1, 13, 14, 15, 16, 17, 2, 3, 4, 5, 6, 7, 8, 9, 10, 11, 12] (by decide) ks_18_0_1_13_14_15_16_17_2_3_4_5_6_7_8_9_10_11_12
  have hw6 : ∀ j, j < zl → rc2_6 j = (-1) := hw6
  refine lv_iconst (v := nI 0) hx hb dd_Se_noteEnd_9 (by decide) ?_
  refine lv_istore_n (lv' := [(2, .int (nI 0)), (0, .ref h), (1, .int (nI n))]) hx hb dd_Se_noteEnd_10 rfl hl (by decide) rfl (fun ls hl => ?_)
  have lp11 : ∀ (N9_11 : Nat) (cx : Nat) (al1 : Int32) (rol1 : Nat → Int64) (rvl1 : Nat → Int32) (rdl1 : Nat → Int64) (rcl1 : Nat → Int32) (ec1 : Nat → Int32), (4 - cx) < N9_11 → (cx ≤ 4) → (kn_at (fun z => (Z z).map Prod.snd) cx rol1 rvl1 rdl1 rcl1 ec ec1 n) → (ka_ 1 al1 rcl1) → ∀ (H : Heap) (locs : List Loc), va_P D vwCl [(h, .inr (7, [.ref g, .ref t, .ref k, .ref f, .ref v1, .ref v2, .ref v3, .ref v4, .int (nI ps), .int (nI ly), .int op, .int (nI pl), .int (nI wl), .int (nI wc), .ref v5, .ref v6, .ref v7])), (k, .inr (2, [.int (nI bn), .int (nI lf), .ref j1, .ref j2, .ref j3, .ref j4, .ref j5, .ref j6, .ref j7])), (v1, .inr (6, [.int al1, .ref ql0, .ref ql1, .ref ql2, .ref ql3])), (ql0, .inl (cJ, zl, .inr (.inl rol1))), (ql1, .inl (cI, zl, .inl rvl1)), (ql2, .inl (cJ, zl, .inr (.inl rdl1))), (ql3, .inl (cI, zl, .inl rcl1)), (v2, .inr (6, [.int ans, .ref qs0, .ref qs1, .ref qs2, .ref qs3])), (qs0, .inl (cJ, zs, .inr (.inl ros))), (qs1, .inl (cI, zs, .inl rvs)), (qs2, .inl (cJ, zs, .inr (.inl rds))), (qs3, .inl (cI, zs, .inl rcs)), (v4, .inr (6, [.int ann, .ref qn0, .ref qn1, .ref qn2, .ref qn3])), (qn0, .inl (cJ, zn, .inr (.inl ron))), (qn1, .inl (cI, zn, .inl rvn)), (qn2, .inl (cJ, zn, .inr (.inl rdn))), (qn3, .inl (cI, zn, .inl rcn)), (v5, .inl (cI, le, .inl ec1))] H → va_D A [(h, .inr (7, [.ref g, .ref t, .ref k, .ref f, .ref v1, .ref v2, .ref v3, .ref v4, .int (nI ps), .int (nI ly), .int op, .int (nI pl), .int (nI wl), .int (nI wc), .ref v5, .ref v6, .ref v7])), (k, .inr (2, [.int (nI bn), .int (nI lf), .ref j1, .ref j2, .ref j3, .ref j4, .ref j5, .ref j6, .ref j7])), (v1, .inr (6, [.int al1, .ref ql0, .ref ql1, .ref ql2, .ref ql3])), (ql0, .inl (cJ, zl, .inr (.inl rol1))), (ql1, .inl (cI, zl, .inl rvl1)), (ql2, .inl (cJ, zl, .inr (.inl rdl1))), (ql3, .inl (cI, zl, .inl rcl1)), (v2, .inr (6, [.int ans, .ref qs0, .ref qs1, .ref qs2, .ref qs3])), (qs0, .inl (cJ, zs, .inr (.inl ros))), (qs1, .inl (cI, zs, .inl rvs)), (qs2, .inl (cJ, zs, .inr (.inl rds))), (qs3, .inl (cI, zs, .inl rcs)), (v4, .inr (6, [.int ann, .ref qn0, .ref qn1, .ref qn2, .ref qn3])), (qn0, .inl (cJ, zn, .inr (.inl ron))), (qn1, .inl (cI, zn, .inl rvn)), (qn2, .inl (cJ, zn, .inr (.inl rdn))), (qn3, .inl (cI, zn, .inl rcn)), (v5, .inl (cI, le, .inl ec1))] → va_S A s.heap H locs → ∀ (ls : Array Slot), lv_has ls 4 [(0, .ref h), (1, .int (nI n)), (2, .int (nI cx))] → W p l e (headSpec ww_Se_noteEnd { frames := 2, cells := 0, slots := 0, locals := 54 }).room s m ([.ref h, .int (nI n)] : List Value).toArray below meth c H locs 0 0 Q (F0 m 11 ls []) := by
    clear hP hD hS hl
    intro N9_11
    induction N9_11 with
    | zero => intro _ _ _ _ _ _ _ h9; exact absurd h9 (Nat.not_lt_zero _)
    | succ N9_11 ih_11 =>
      intro cx al1 rol1 rvl1 rdl1 rcl1 ec1 hμ_11 hcx hat hka H locs hP hD hS ls hl
      refine lv_iload_n hx hb dd_Se_noteEnd_11 rfl (lv_at hl 2 rfl) ?_
      refine lv_iconst (v := nI 4) hx hb dd_Se_noteEnd_12 (by decide) ?_
      refine lv_icmp_ge (tgt := 99) hx hb dd_Se_noteEnd_13 (by decide) (fun c13 => ?_) (fun c13 => ?_)
      · skip
        have c13 : 4 ≤ cx := (nI_leI (by omega) (by omega)).mp c13
        obtain ⟨r9, hr1, hr2, hr3⟩ : kn_at (fun z => (Z z).map Prod.snd) 4 rol1 rvl1 rdl1 rcl1 ec ec1 n := by rw [show 4 = cx by omega]; exact hat
        refine lv_aload_n hx hb dd_Se_noteEnd_99 rfl (lv_at hl 0 rfl) ?_
        refine va_get (D := D) (ci := 7) (v := .ref v1) (C := rr_Se) (T := tt_Se) (N := 17) hx hb hts hin7 hown hK hP 0 kg_18_0 rfl 4 (by decide) lk0 (fun _ h9 => h9) rfl dd_Se_noteEnd_100 ?_
        refine va_get (D := D) (ci := 6) (v := .int al1) (C := rr_Rw) (T := tt_Rw) (N := 5) hx hb hts hin6 hown hK hP 2 kg_18_2 rfl 0 (by decide) lk2 (fun _ h9 => h9) rfl dd_Se_noteEnd_103 ?_
        refine lv_if_eq (tgt := 161) hx hb dd_Se_noteEnd_106 (by decide) (fun c106 => ?_) (fun c106 => ?_)
        · skip
          have hrn : r9.map Prod.snd = none := (ke_has hr1).mp ((ka_1 hka).mp c106)
          have hrn2 : r9 = none := by cases r9 with | none => rfl | some z => cases hrn
          rw [hQ]
          exact kx_vret hx hb hr hlocks hK hN hS dd_Se_noteEnd_161 (al1, rol1, rvl1, rdl1, rcl1, ans, ros, rvs, rds, rcs, ec1, wl) hP hD (by first | exact ⟨r9, rb, hr2, hr3, hrb, has, by rw [hrn2]; exact kn_b0 hKB, hwl⟩ | (rw [e1, e2, e3, e4, e5]; exact ⟨r9, rb, hr2, hr3, hrb, has, kn_bk hrb hKB hz8 hz7 hcd, hwl⟩) | (rw [e1, e2, e3, e4, e5]; exact ⟨r9, some (n - 1, z8), hr2, hr3, kv_put hz7, ka_y (by omega) hz7, kn_by hrb hKB hz8 hz7 hcd, fun z hz => by cases hz; show n = n - 1 + 1; omega⟩))
        · skip
          obtain ⟨z8, hz8⟩ : ∃ z, r9.map Prod.snd = some z := by cases h9 : r9.map Prod.snd with | none => exact absurd ((ka_1 hka).mpr ((ke_has hr1).mpr h9)) c106 | some z => exact ⟨z, rfl⟩
          have hr4 := hr1
          rw [hz8] at hr4
          obtain ⟨hz7, hq1, hq2, hq3, hq4⟩ := hr4
          refine lv_aload_n hx hb dd_Se_noteEnd_109 rfl (lv_at hl 0 rfl) ?_
          refine va_get (D := D) (ci := 7) (v := .ref v2) (C := rr_Se) (T := tt_Se) (N := 17) hx hb hts hin7 hown hK hP 0 kg_18_0 rfl 5 (by decide) lk4 (fun _ h9 => h9) rfl dd_Se_noteEnd_110 ?_
          refine lv_iconst (v := nI 0) hx hb dd_Se_noteEnd_113 (by decide) ?_
          refine lv_aload_n hx hb dd_Se_noteEnd_114 rfl (lv_at hl 0 rfl) ?_
          refine va_get (D := D) (ci := 7) (v := .ref v1) (C := rr_Se) (T := tt_Se) (N := 17) hx hb hts hin7 hown hK hP 0 kg_18_0 rfl 4 (by decide) lk0 (fun _ h9 => h9) rfl dd_Se_noteEnd_115 ?_
          refine va_get (D := D) (ci := 6) (v := .ref ql0) (C := rr_Rw) (T := tt_Rw) (N := 5) hx hb hts hin6 hown hK hP 2 kg_18_2 rfl 1 (by decide) lk5 (fun _ h9 => h9) rfl dd_Se_noteEnd_118 ?_
          refine lv_iconst (v := nI 0) hx hb dd_Se_noteEnd_121 (by decide) ?_
          refine kx_lald (q0 := 3) (t0 := 1) hx hb dd_Se_noteEnd_122 hK hP kg_18_3 rfl (by omega) (by omega) ?_
          refine lv_aload_n hx hb dd_Se_noteEnd_123 rfl (lv_at hl 0 rfl) ?_
          refine va_get (D := D) (ci := 7) (v := .ref v1) (C := rr_Se) (T := tt_Se) (N := 17) hx hb hts hin7 hown hK hP 0 kg_18_0 rfl 4 (by decide) lk0 (fun _ h9 => h9) rfl dd_Se_noteEnd_124 ?_
          refine va_get (D := D) (ci := 6) (v := .ref ql1) (C := rr_Rw) (T := tt_Rw) (N := 5) hx hb hts hin6 hown hK hP 2 kg_18_2 rfl 2 (by decide) lk6 (fun _ h9 => h9) rfl dd_Se_noteEnd_127 ?_
          refine lv_iconst (v := nI 0) hx hb dd_Se_noteEnd_130 (by decide) ?_
          refine kx_iald (q0 := 4) (t0 := 0) hx hb dd_Se_noteEnd_131 hK hP kg_18_4 rfl (by omega) (by omega) ?_
          refine lv_aload_n hx hb dd_Se_noteEnd_132 rfl (lv_at hl 0 rfl) ?_
          refine va_get (D := D) (ci := 7) (v := .ref v1) (C := rr_Se) (T := tt_Se) (N := 17) hx hb hts hin7 hown hK hP 0 kg_18_0 rfl 4 (by decide) lk0 (fun _ h9 => h9) rfl dd_Se_noteEnd_133 ?_
          refine va_get (D := D) (ci := 6) (v := .ref ql2) (C := rr_Rw) (T := tt_Rw) (N := 5) hx hb hts hin6 hown hK hP 2 kg_18_2 rfl 3 (by decide) lk7 (fun _ h9 => h9) rfl dd_Se_noteEnd_136 ?_
          refine lv_iconst (v := nI 0) hx hb dd_Se_noteEnd_139 (by decide) ?_
          refine kx_lald (q0 := 5) (t0 := 1) hx hb dd_Se_noteEnd_140 hK hP kg_18_5 rfl (by omega) (by omega) ?_
          refine lv_aload_n hx hb dd_Se_noteEnd_141 rfl (lv_at hl 0 rfl) ?_
          refine va_get (D := D) (ci := 7) (v := .ref v1) (C := rr_Se) (T := tt_Se) (N := 17) hx hb hts hin7 hown hK hP 0 kg_18_0 rfl 4 (by decide) lk0 (fun _ h9 => h9) rfl dd_Se_noteEnd_142 ?_
          refine va_get (D := D) (ci := 6) (v := .ref ql3) (C := rr_Rw) (T := tt_Rw) (N := 5) hx hb hts hin6 hown hK hP 2 kg_18_2 rfl 4 (by decide) lk8 (fun _ h9 => h9) rfl dd_Se_noteEnd_145 ?_
          refine lv_iconst (v := nI 0) hx hb dd_Se_noteEnd_148 (by decide) ?_
          refine kx_iald (q0 := 6) (t0 := 0) hx hb dd_Se_noteEnd_149 hK hP kg_18_6 rfl (by omega) (by omega) ?_
          refine kx_calli (wr := [(h, .inr (7, [.ref g, .ref t, .ref k, .ref f, .ref v1, .ref v2, .ref v3, .ref v4, .int (nI ps), .int (nI ly), .int op, .int (nI pl), .int (nI wl), .int (nI wc), .ref v5, .ref v6, .ref v7])), (k, .inr (2, [.int (nI bn), .int (nI lf), .ref j1, .ref j2, .ref j3, .ref j4, .ref j5, .ref j6, .ref j7])), (v1, .inr (6, [.int al1, .ref ql0, .ref ql1, .ref ql2, .ref ql3])), (ql0, .inl (cJ, zl, .inr (.inl rol1))), (ql1, .inl (cI, zl, .inl rvl1)), (ql2, .inl (cJ, zl, .inr (.inl rdl1))), (ql3, .inl (cI, zl, .inl rcl1)), (v4, .inr (6, [.int ann, .ref qn0, .ref qn1, .ref qn2, .ref qn3])), (qn0, .inl (cJ, zn, .inr (.inl ron))), (qn1, .inl (cI, zn, .inl rvn)), (qn2, .inl (cJ, zn, .inr (.inl rdn))), (qn3, .inl (cI, zn, .inl rcn)), (v5, .inl (cI, le, .inl ec1))]) (va_runV (C := rr_Rw) (As := [.int (nI 0), .long (rol1 0), .int (rvl1 0), .long (rdl1 0), .int (rcl1 0)]) (rest := []) ⟨hx, hb, hml, hown, hts⟩ (ct_Rw_offer l D cI cJ cZ H.size v2 qs0 qs1 qs2 qs3 zs ans ros rvs rds rcs 0 (rol1 0) (rvl1 0) (rdl1 0) (rcl1 0) (by omega) (by omega)) ⟨(callB_of 5 hts (kx_good kw_657) rfl rfl rfl (hts _ (kx_m kw_51)) (hts _ (kx_m kw_654)) (by decide +kernel) ⟨Nat.le_of_ble_eq_true rfl, Nat.le_of_ble_eq_true rfl⟩), (hts _ (kx_m kw_655)), (hts _ (kx_m kw_656))⟩ (kx_preV (ci := 6) (q0 := 0) hK hN (hP.sub [7, 8, 9, 10, 11] kt_18_7_8_9_10_11) (hD.sub [7, 8, 9, 10, 11] (by decide) ks_18_7_8_9_10_11) rfl kg_5_0) rfl rfl hl.1 rfl (lv_room (Nat.le_of_ble_eq_true rfl)) dd_Se_noteEnd_150 ⟨Nat.le_of_ble_eq_true rfl, Nat.le_of_ble_eq_true rfl⟩) hP hD hS hA [7, 8, 9, 10, 11] [0, 1, 2, 3, 4, 5, 6, 12, 13, 14, 15, 16, 17] ks_18_7_8_9_10_11 ks_18_0_1_2_3_4_5_6_12_13_14_15_16_17 (by decide) (by decide) (fun r150 u150 H locs hw150 hP hD hS => ?_)
          obtain ⟨an2_150, ro2_150, rv2_150, rd2_150, rc2_150⟩ := u150
          have hP : va_P D vwCl [(h, .inr (7, [.ref g, .ref t, .ref k, .ref f, .ref v1, .ref v2, .ref v3, .ref v4, .int (nI ps), .int (nI ly), .int op, .int (nI pl), .int (nI wl), .int (nI wc), .ref v5, .ref v6, .ref v7])), (k, .inr (2, [.int (nI bn), .int (nI lf), .ref j1, .ref j2, .ref j3, .ref j4, .ref j5, .ref j6, .ref j7])), (v1, .inr (6, [.int al1, .ref ql0, .ref ql1, .ref ql2, .ref ql3])), (ql0, .inl (cJ, zl, .inr (.inl rol1))), (ql1, .inl (cI, zl, .inl rvl1)), (ql2, .inl (cJ, zl, .inr (.inl rdl1))), (ql3, .inl (cI, zl, .inl rcl1)), (v4, .inr (6, [.int ann, .ref qn0, .ref qn1, .ref qn2, .ref qn3])), (qn0, .inl (cJ, zn, .inr (.inl ron))), (qn1, .inl (cI, zn, .inl rvn)), (qn2, .inl (cJ, zn, .inr (.inl rdn))), (qn3, .inl (cI, zn, .inl rcn)), (v5, .inl (cI, le, .inl ec1)), (v2, .inr (6, [.int an2_150, .ref qs0, .ref qs1, .ref qs2, .ref qs3])), (qs0, .inl (cJ, zs, .inr (.inl ro2_150))), (qs1, .inl (cI, zs, .inl rv2_150)), (qs2, .inl (cJ, zs, .inr (.inl rd2_150))), (qs3, .inl (cI, zs, .inl rc2_150))] H := hP
          have hD : va_D A [(h, .inr (7, [.ref g, .ref t, .ref k, .ref f, .ref v1, .ref v2, .ref v3, .ref v4, .int (nI ps), .int (nI ly), .int op, .int (nI pl), .int (nI wl), .int (nI wc), .ref v5, .ref v6, .ref v7])), (k, .inr (2, [.int (nI bn), .int (nI lf), .ref j1, .ref j2, .ref j3, .ref j4, .ref j5, .ref j6, .ref j7])), (v1, .inr (6, [.int al1, .ref ql0, .ref ql1, .ref ql2, .ref ql3])), (ql0, .inl (cJ, zl, .inr (.inl rol1))), (ql1, .inl (cI, zl, .inl rvl1)), (ql2, .inl (cJ, zl, .inr (.inl rdl1))), (ql3, .inl (cI, zl, .inl rcl1)), (v4, .inr (6, [.int ann, .ref qn0, .ref qn1, .ref qn2, .ref qn3])), (qn0, .inl (cJ, zn, .inr (.inl ron))), (qn1, .inl (cI, zn, .inl rvn)), (qn2, .inl (cJ, zn, .inr (.inl rdn))), (qn3, .inl (cI, zn, .inl rcn)), (v5, .inl (cI, le, .inl ec1)), (v2, .inr (6, [.int an2_150, .ref qs0, .ref qs1, .ref qs2, .ref qs3])), (qs0, .inl (cJ, zs, .inr (.inl ro2_150))), (qs1, .inl (cI, zs, .inl rv2_150)), (qs2, .inl (cJ, zs, .inr (.inl rd2_150))), (qs3, .inl (cI, zs, .inl rc2_150))] := hD
          have hP : va_P D vwCl [(h, .inr (7, [.ref g, .ref t, .ref k, .ref f, .ref v1, .ref v2, .ref v3, .ref v4, .int (nI ps), .int (nI ly), .int op, .int (nI pl), .int (nI wl), .int (nI wc), .ref v5, .ref v6, .ref v7])), (k, .inr (2, [.int (nI bn), .int (nI lf), .ref j1, .ref j2, .ref j3, .ref j4, .ref j5, .ref j6, .ref j7])), (v1, .inr (6, [.int al1, .ref ql0, .ref ql1, .ref ql2, .ref ql3])), (ql0, .inl (cJ, zl, .inr (.inl rol1))), (ql1, .inl (cI, zl, .inl rvl1)), (ql2, .inl (cJ, zl, .inr (.inl rdl1))), (ql3, .inl (cI, zl, .inl rcl1)), (v2, .inr (6, [.int an2_150, .ref qs0, .ref qs1, .ref qs2, .ref qs3])), (qs0, .inl (cJ, zs, .inr (.inl ro2_150))), (qs1, .inl (cI, zs, .inl rv2_150)), (qs2, .inl (cJ, zs, .inr (.inl rd2_150))), (qs3, .inl (cI, zs, .inl rc2_150)), (v4, .inr (6, [.int ann, .ref qn0, .ref qn1, .ref qn2, .ref qn3])), (qn0, .inl (cJ, zn, .inr (.inl ron))), (qn1, .inl (cI, zn, .inl rvn)), (qn2, .inl (cJ, zn, .inr (.inl rdn))), (qn3, .inl (cI, zn, .inl rcn)), (v5, .inl (cI, le, .inl ec1))] H := hP.sub [0, 1, 2, 3, 4, 5, 6, 13, 14, 15, 16, 17, 7, 8, 9, 10, 11, 12] kt_18_0_1_2_3_4_5_6_13_14_15_16_17_7_8_9_10_11_12
          have hD : va_D A [(h, .inr (7, [.ref g, .ref t, .ref k, .ref f, .ref v1, .ref v2, .ref v3, .ref v4, .int (nI ps), .int (nI ly), .int op, .int (nI pl), .int (nI wl), .int (nI wc), .ref v5, .ref v6, .ref v7])), (k, .inr (2, [.int (nI bn), .int (nI lf), .ref j1, .ref j2, .ref j3, .ref j4, .ref j5, .ref j6, .ref j7])), (v1, .inr (6, [.int al1, .ref ql0, .ref ql1, .ref ql2, .ref ql3])), (ql0, .inl (cJ, zl, .inr (.inl rol1))), (ql1, .inl (cI, zl, .inl rvl1)), (ql2, .inl (cJ, zl, .inr (.inl rdl1))), (ql3, .inl (cI, zl, .inl rcl1)), (v2, .inr (6, [.int an2_150, .ref qs0, .ref qs1, .ref qs2, .ref qs3])), (qs0, .inl (cJ, zs, .inr (.inl ro2_150))), (qs1, .inl (cI, zs, .inl rv2_150)), (qs2, .inl (cJ, zs, .inr (.inl rd2_150))), (qs3, .inl (cI, zs, .inl rc2_150)), (v4, .inr (6, [.int ann, .ref qn0, .ref qn1, .ref qn2, .ref qn3])), (qn0, .inl (cJ, zn, .inr (.inl ron))), (qn1, .inl (cI, zn, .inl rvn)), (qn2, .inl (cJ, zn, .inr (.inl rdn))), (qn3, .inl (cI, zn, .inl rcn)), (v5, .inl (cI, le, .inl ec1))] := hD.sub [0, 1, 2, 3, 4, 5, 6, 13, 14, 15, 16, 17, 7, 8, 9, 10, 11, 12] (by decide) ks_18_0_1_2_3_4_5_6_13_14_15_16_17_7_8_9_10_11_12
          obtain ⟨rfl, hw150⟩ := hw150
          have hw150 : (if rcs 0 = (-1) ∨ pk_bt (rol1 0) (ros 0) (rvl1 0) (rvs 0) (rdl1 0) (rds 0) (rcl1 0) (rcs 0) then an2_150 = nI 1 ∧ ro2_150 = vp_updL ros 0 (rol1 0) ∧ rv2_150 = upd rvs 0 (rvl1 0) ∧ rd2_150 = vp_updL rds 0 (rdl1 0) ∧ rc2_150 = upd rcs 0 (rcl1 0) else an2_150 = ans ∧ ro2_150 = ros ∧ rv2_150 = rvs ∧ rd2_150 = rds ∧ rc2_150 = rcs) := hw150
          refine lv_if_eq (tgt := 161) hx hb dd_Se_noteEnd_153 (by decide) (fun c153 => ?_) (fun c153 => ?_)
          · skip
            have c153 : ¬ (rcs 0 = (-1) ∨ pk_bt (rol1 0) (ros 0) (rvl1 0) (rvs 0) (rdl1 0) (rds 0) (rcl1 0) (rcs 0)) := kb_0.mp c153
            have hcd := c153
            rw [hq1, hq2, hq3, hq4] at hcd hw150
            rw [if_neg hcd] at hw150
            obtain ⟨e1, e2, e3, e4, e5⟩ := hw150
            rw [hQ]
            exact kx_vret hx hb hr hlocks hK hN hS dd_Se_noteEnd_161 (al1, rol1, rvl1, rdl1, rcl1, an2_150, ro2_150, rv2_150, rd2_150, rc2_150, ec1, wl) hP hD (by first | exact ⟨r9, rb, hr2, hr3, hrb, has, by rw [hrn2]; exact kn_b0 hKB, hwl⟩ | (rw [e1, e2, e3, e4, e5]; exact ⟨r9, rb, hr2, hr3, hrb, has, kn_bk hrb hKB hz8 hz7 hcd, hwl⟩) | (rw [e1, e2, e3, e4, e5]; exact ⟨r9, some (n - 1, z8), hr2, hr3, kv_put hz7, ka_y (by omega) hz7, kn_by hrb hKB hz8 hz7 hcd, fun z hz => by cases hz; show n = n - 1 + 1; omega⟩))
          · skip
            have c153 : rcs 0 = (-1) ∨ pk_bt (rol1 0) (ros 0) (rvl1 0) (rvs 0) (rdl1 0) (rds 0) (rcl1 0) (rcs 0) := kb_1.mp c153
            have hcd := c153
            rw [hq1, hq2, hq3, hq4] at hcd hw150
            rw [if_pos hcd] at hw150
            obtain ⟨e1, e2, e3, e4, e5⟩ := hw150
            refine lv_aload_n hx hb dd_Se_noteEnd_156 rfl (lv_at hl 0 rfl) ?_
            refine lv_iload_n hx hb dd_Se_noteEnd_157 rfl (lv_at hl 1 rfl) ?_
            refine va_put (D := D) (ci := 7) (v := .int (nI n)) (ty := .int) (C := rr_Se) (T := tt_Se) (N := 17) hx hb hts hin7 ft_Se ft_Se_ok nn_Se hown hK hP hD hS 0 kg_18_0 rfl 12 (by decide) lk9 (fun _ h9 => h9) rfl (by decide +kernel) rfl rfl (Nat.le_of_ble_eq_true rfl) dd_Se_noteEnd_158 (fun H locs hP hD hS => ?_)
            have hP : va_P D vwCl [(h, .inr (7, [.ref g, .ref t, .ref k, .ref f, .ref v1, .ref v2, .ref v3, .ref v4, .int (nI ps), .int (nI ly), .int op, .int (nI pl), .int (nI n), .int (nI wc), .ref v5, .ref v6, .ref v7])), (k, .inr (2, [.int (nI bn), .int (nI lf), .ref j1, .ref j2, .ref j3, .ref j4, .ref j5, .ref j6, .ref j7])), (v1, .inr (6, [.int al1, .ref ql0, .ref ql1, .ref ql2, .ref ql3])), (ql0, .inl (cJ, zl, .inr (.inl rol1))), (ql1, .inl (cI, zl, .inl rvl1)), (ql2, .inl (cJ, zl, .inr (.inl rdl1))), (ql3, .inl (cI, zl, .inl rcl1)), (v2, .inr (6, [.int an2_150, .ref qs0, .ref qs1, .ref qs2, .ref qs3])), (qs0, .inl (cJ, zs, .inr (.inl ro2_150))), (qs1, .inl (cI, zs, .inl rv2_150)), (qs2, .inl (cJ, zs, .inr (.inl rd2_150))), (qs3, .inl (cI, zs, .inl rc2_150)), (v4, .inr (6, [.int ann, .ref qn0, .ref qn1, .ref qn2, .ref qn3])), (qn0, .inl (cJ, zn, .inr (.inl ron))), (qn1, .inl (cI, zn, .inl rvn)), (qn2, .inl (cJ, zn, .inr (.inl rdn))), (qn3, .inl (cI, zn, .inl rcn)), (v5, .inl (cI, le, .inl ec1))] H := kx_cP kz_18_0 hP
            have hD : va_D A [(h, .inr (7, [.ref g, .ref t, .ref k, .ref f, .ref v1, .ref v2, .ref v3, .ref v4, .int (nI ps), .int (nI ly), .int op, .int (nI pl), .int (nI n), .int (nI wc), .ref v5, .ref v6, .ref v7])), (k, .inr (2, [.int (nI bn), .int (nI lf), .ref j1, .ref j2, .ref j3, .ref j4, .ref j5, .ref j6, .ref j7])), (v1, .inr (6, [.int al1, .ref ql0, .ref ql1, .ref ql2, .ref ql3])), (ql0, .inl (cJ, zl, .inr (.inl rol1))), (ql1, .inl (cI, zl, .inl rvl1)), (ql2, .inl (cJ, zl, .inr (.inl rdl1))), (ql3, .inl (cI, zl, .inl rcl1)), (v2, .inr (6, [.int an2_150, .ref qs0, .ref qs1, .ref qs2, .ref qs3])), (qs0, .inl (cJ, zs, .inr (.inl ro2_150))), (qs1, .inl (cI, zs, .inl rv2_150)), (qs2, .inl (cJ, zs, .inr (.inl rd2_150))), (qs3, .inl (cI, zs, .inl rc2_150)), (v4, .inr (6, [.int ann, .ref qn0, .ref qn1, .ref qn2, .ref qn3])), (qn0, .inl (cJ, zn, .inr (.inl ron))), (qn1, .inl (cI, zn, .inl rvn)), (qn2, .inl (cJ, zn, .inr (.inl rdn))), (qn3, .inl (cI, zn, .inl rcn)), (v5, .inl (cI, le, .inl ec1))] := kx_cD kz_18_0 hD
            rw [hQ]
            exact kx_vret hx hb hr hlocks hK hN hS dd_Se_noteEnd_161 (al1, rol1, rvl1, rdl1, rcl1, an2_150, ro2_150, rv2_150, rd2_150, rc2_150, ec1, n) hP hD (by first | exact ⟨r9, rb, hr2, hr3, hrb, has, by rw [hrn2]; exact kn_b0 hKB, hwl⟩ | (rw [e1, e2, e3, e4, e5]; exact ⟨r9, rb, hr2, hr3, hrb, has, kn_bk hrb hKB hz8 hz7 hcd, hwl⟩) | (rw [e1, e2, e3, e4, e5]; exact ⟨r9, some (n - 1, z8), hr2, hr3, kv_put hz7, ka_y (by omega) hz7, kn_by hrb hKB hz8 hz7 hcd, fun z hz => by cases hz; show n = n - 1 + 1; omega⟩))
      · skip
        have c13 : ¬ (4 ≤ cx) := fun h => c13 ((nI_leI (by omega) (by omega)).mpr h)
        refine lv_aload_n hx hb dd_Se_noteEnd_16 rfl (lv_at hl 0 rfl) ?_
        refine va_get (D := D) (ci := 7) (v := .ref k) (C := rr_Se) (T := tt_Se) (N := 17) hx hb hts hin7 hown hK hP 0 kg_18_0 rfl 2 (by decide) lk10 (fun _ h9 => h9) rfl dd_Se_noteEnd_17 ?_
        refine va_get (D := D) (ci := 2) (v := .int (nI bn)) (C := rr_Bk) (T := tt_Bk) (N := 9) hx hb hts hin2 hown hK hP 1 kg_18_1 rfl 0 (by decide) lk11 (fun _ h9 => h9) rfl dd_Se_noteEnd_20 ?_
        refine lv_iconst (v := nI 4) hx hb dd_Se_noteEnd_23 (by decide) ?_
        refine kx_imul hx hb dd_Se_noteEnd_24 ?_
        refine lv_iload_n hx hb dd_Se_noteEnd_25 rfl (lv_at hl 2 rfl) ?_
        refine kx_iadd hx hb dd_Se_noteEnd_26 ?_
        refine lv_istore_n (lv' := [(3, .int (nI ((bn * 4) + cx))), (0, .ref h), (1, .int (nI n)), (2, .int (nI cx))]) hx hb dd_Se_noteEnd_27 rfl hl (by decide) rfl (fun ls hl => ?_)
        refine lv_aload_n hx hb dd_Se_noteEnd_28 rfl (lv_at hl 1 rfl) ?_
        refine va_get (D := D) (ci := 7) (v := .ref v4) (C := rr_Se) (T := tt_Se) (N := 17) hx hb hts hin7 hown hK hP 0 kg_18_0 rfl 7 (by decide) lk13 (fun _ h9 => h9) rfl dd_Se_noteEnd_29 ?_
        refine lv_iload_n hx hb dd_Se_noteEnd_32 rfl (lv_at hl 0 rfl) ?_
        refine kx_calli (wr := [(h, .inr (7, [.ref g, .ref t, .ref k, .ref f, .ref v1, .ref v2, .ref v3, .ref v4, .int (nI ps), .int (nI ly), .int op, .int (nI pl), .int (nI wl), .int (nI wc), .ref v5, .ref v6, .ref v7])), (k, .inr (2, [.int (nI bn), .int (nI lf), .ref j1, .ref j2, .ref j3, .ref j4, .ref j5, .ref j6, .ref j7])), (v1, .inr (6, [.int al1, .ref ql0, .ref ql1, .ref ql2, .ref ql3])), (ql0, .inl (cJ, zl, .inr (.inl rol1))), (ql1, .inl (cI, zl, .inl rvl1)), (ql2, .inl (cJ, zl, .inr (.inl rdl1))), (ql3, .inl (cI, zl, .inl rcl1)), (v2, .inr (6, [.int ans, .ref qs0, .ref qs1, .ref qs2, .ref qs3])), (qs0, .inl (cJ, zs, .inr (.inl ros))), (qs1, .inl (cI, zs, .inl rvs)), (qs2, .inl (cJ, zs, .inr (.inl rds))), (qs3, .inl (cI, zs, .inl rcs)), (qn0, .inl (cJ, zn, .inr (.inl ron))), (qn1, .inl (cI, zn, .inl rvn)), (qn2, .inl (cJ, zn, .inr (.inl rdn))), (v5, .inl (cI, le, .inl ec1))]) (va_runV (C := rr_Rw) (As := [.int (nI ((bn * 4) + cx))]) (rest := []) ⟨hx, hb, hml, hown, hts⟩ (ct_Rw_has l D cI cJ cZ H.size v4 qn0 qn1 qn2 qn3 zn ann rcn ((bn * 4) + cx) (by omega) (by omega)) ⟨(callB_of 1 hts (kx_good kw_661) rfl rfl rfl (hts _ (kx_m kw_51)) (hts _ (kx_m kw_728)) (by decide +kernel) ⟨Nat.le_of_ble_eq_true rfl, Nat.le_of_ble_eq_true rfl⟩), (hts _ (kx_m kw_659)), (hts _ (kx_m kw_660))⟩ (kx_preV (ci := 6) (q0 := 0) hK hN (hP.sub [12, 16] kt_18_12_16) (hD.sub [12, 16] (by decide) ks_18_12_16) rfl kg_2_0) rfl rfl hl.1 rfl (lv_room (Nat.le_of_ble_eq_true rfl)) dd_Se_noteEnd_33 ⟨Nat.le_of_ble_eq_true rfl, Nat.le_of_ble_eq_true rfl⟩) hP hD hS hA [12, 16] [0, 1, 2, 3, 4, 5, 6, 7, 8, 9, 10, 11, 13, 14, 15, 17] ks_18_12_16 ks_18_0_1_2_3_4_5_6_7_8_9_10_11_13_14_15_17 (by decide) (by decide) (fun r33 u33 H locs hw33 hP hD hS => ?_)
        have hP : va_P D vwCl [(h, .inr (7, [.ref g, .ref t, .ref k, .ref f, .ref v1, .ref v2, .ref v3, .ref v4, .int (nI ps), .int (nI ly), .int op, .int (nI pl), .int (nI wl), .int (nI wc), .ref v5, .ref v6, .ref v7])), (k, .inr (2, [.int (nI bn), .int (nI lf), .ref j1, .ref j2, .ref j3, .ref j4, .ref j5, .ref j6, .ref j7])), (v1, .inr (6, [.int al1, .ref ql0, .ref ql1, .ref ql2, .ref ql3])), (ql0, .inl (cJ, zl, .inr (.inl rol1))), (ql1, .inl (cI, zl, .inl rvl1)), (ql2, .inl (cJ, zl, .inr (.inl rdl1))), (ql3, .inl (cI, zl, .inl rcl1)), (v2, .inr (6, [.int ans, .ref qs0, .ref qs1, .ref qs2, .ref qs3])), (qs0, .inl (cJ, zs, .inr (.inl ros))), (qs1, .inl (cI, zs, .inl rvs)), (qs2, .inl (cJ, zs, .inr (.inl rds))), (qs3, .inl (cI, zs, .inl rcs)), (qn0, .inl (cJ, zn, .inr (.inl ron))), (qn1, .inl (cI, zn, .inl rvn)), (qn2, .inl (cJ, zn, .inr (.inl rdn))), (v5, .inl (cI, le, .inl ec1)), (v4, .inr (6, [.int ann, .ref qn0, .ref qn1, .ref qn2, .ref qn3])), (qn3, .inl (cI, zn, .inl rcn))] H := hP
        have hD : va_D A [(h, .inr (7, [.ref g, .ref t, .ref k, .ref f, .ref v1, .ref v2, .ref v3, .ref v4, .int (nI ps), .int (nI ly), .int op, .int (nI pl), .int (nI wl), .int (nI wc), .ref v5, .ref v6, .ref v7])), (k, .inr (2, [.int (nI bn), .int (nI lf), .ref j1, .ref j2, .ref j3, .ref j4, .ref j5, .ref j6, .ref j7])), (v1, .inr (6, [.int al1, .ref ql0, .ref ql1, .ref ql2, .ref ql3])), (ql0, .inl (cJ, zl, .inr (.inl rol1))), (ql1, .inl (cI, zl, .inl rvl1)), (ql2, .inl (cJ, zl, .inr (.inl rdl1))), (ql3, .inl (cI, zl, .inl rcl1)), (v2, .inr (6, [.int ans, .ref qs0, .ref qs1, .ref qs2, .ref qs3])), (qs0, .inl (cJ, zs, .inr (.inl ros))), (qs1, .inl (cI, zs, .inl rvs)), (qs2, .inl (cJ, zs, .inr (.inl rds))), (qs3, .inl (cI, zs, .inl rcs)), (qn0, .inl (cJ, zn, .inr (.inl ron))), (qn1, .inl (cI, zn, .inl rvn)), (qn2, .inl (cJ, zn, .inr (.inl rdn))), (v5, .inl (cI, le, .inl ec1)), (v4, .inr (6, [.int ann, .ref qn0, .ref qn1, .ref qn2, .ref qn3])), (qn3, .inl (cI, zn, .inl rcn))] := hD
        have hP : va_P D vwCl [(h, .inr (7, [.ref g, .ref t, .ref k, .ref f, .ref v1, .ref v2, .ref v3, .ref v4, .int (nI ps), .int (nI ly), .int op, .int (nI pl), .int (nI wl), .int (nI wc), .ref v5, .ref v6, .ref v7])), (k, .inr (2, [.int (nI bn), .int (nI lf), .ref j1, .ref j2, .ref j3, .ref j4, .ref j5, .ref j6, .ref j7])), (v1, .inr (6, [.int al1, .ref ql0, .ref ql1, .ref ql2, .ref ql3])), (ql0, .inl (cJ, zl, .inr (.inl rol1))), (ql1, .inl (cI, zl, .inl rvl1)), (ql2, .inl (cJ, zl, .inr (.inl rdl1))), (ql3, .inl (cI, zl, .inl rcl1)), (v2, .inr (6, [.int ans, .ref qs0, .ref qs1, .ref qs2, .ref qs3])), (qs0, .inl (cJ, zs, .inr (.inl ros))), (qs1, .inl (cI, zs, .inl rvs)), (qs2, .inl (cJ, zs, .inr (.inl rds))), (qs3, .inl (cI, zs, .inl rcs)), (v4, .inr (6, [.int ann, .ref qn0, .ref qn1, .ref qn2, .ref qn3])), (qn0, .inl (cJ, zn, .inr (.inl ron))), (qn1, .inl (cI, zn, .inl rvn)), (qn2, .inl (cJ, zn, .inr (.inl rdn))), (qn3, .inl (cI, zn, .inl rcn)), (v5, .inl (cI, le, .inl ec1))] H := hP.sub [0, 1, 2, 3, 4, 5, 6, 7, 8, 9, 10, 11, 16, 12, 13, 14, 17, 15] kt_18_0_1_2_3_4_5_6_7_8_9_10_11_16_12_13_14_17_15
        have hD : va_D A [(h, .inr (7, [.ref g, .ref t, .ref k, .ref f, .ref v1, .ref v2, .ref v3, .ref v4, .int (nI ps), .int (nI ly), .int op, .int (nI pl), .int (nI wl), .int (nI wc), .ref v5, .ref v6, .ref v7])), (k, .inr (2, [.int (nI bn), .int (nI lf), .ref j1, .ref j2, .ref j3, .ref j4, .ref j5, .ref j6, .ref j7])), (v1, .inr (6, [.int al1, .ref ql0, .ref ql1, .ref ql2, .ref ql3])), (ql0, .inl (cJ, zl, .inr (.inl rol1))), (ql1, .inl (cI, zl, .inl rvl1)), (ql2, .inl (cJ, zl, .inr (.inl rdl1))), (ql3, .inl (cI, zl, .inl rcl1)), (v2, .inr (6, [.int ans, .ref qs0, .ref qs1, .ref qs2, .ref qs3])), (qs0, .inl (cJ, zs, .inr (.inl ros))), (qs1, .inl (cI, zs, .inl rvs)), (qs2, .inl (cJ, zs, .inr (.inl rds))), (qs3, .inl (cI, zs, .inl rcs)), (v4, .inr (6, [.int ann, .ref qn0, .ref qn1, .ref qn2, .ref qn3])), (qn0, .inl (cJ, zn, .inr (.inl ron))), (qn1, .inl (cI, zn, .inl rvn)), (qn2, .inl (cJ, zn, .inr (.inl rdn))), (qn3, .inl (cI, zn, .inl rcn)), (v5, .inl (cI, le, .inl ec1))] := hD.sub [0, 1, 2, 3, 4, 5, 6, 7, 8, 9, 10, 11, 16, 12, 13, 14, 17, 15] (by decide) ks_18_0_1_2_3_4_5_6_7_8_9_10_11_16_12_13_14_17_15
        have hw33 : r33 = kb_p (¬ rcn ((bn * 4) + cx) = (-1)) := hw33
        subst hw33
        refine lv_if_eq (tgt := 93) hx hb dd_Se_noteEnd_36 (by decide) (fun c36 => ?_) (fun c36 => ?_)
        · skip
          have c36 : ¬ (¬ rcn ((bn * 4) + cx) = (-1)) := kb_0.mp c36
          have hPc := hZ cx (by omega)
          have hKn : (fun z => (Z z).map Prod.snd) cx = none := (ke_has hPc).mp (Decidable.not_not.mp c36)
          refine lv_iinc (v := nI (cx + 1)) (lv' := [(2, .int (nI (cx + 1))), (3, .int (nI ((bn * 4) + cx))), (0, .ref h), (1, .int (nI n))]) hx hb dd_Se_noteEnd_93 hl (k := 3) rfl (nI_add cx 1) (by decide) rfl (fun ls hl => ?_)
          refine lv_goto (tgt := 11) hx hb dd_Se_noteEnd_96 (by decide) ?_
          exact ih_11 (cx + 1) al1 rol1 rvl1 rdl1 rcl1 ec1 (by omega) (by omega) (by first | exact kn_n hat hKn | (rw [e2, e3, e4, e5]; exact kn_k hat hKs hz9 hcd) | (rw [e2, e3, e4, e5]; exact kn_y hat hKs hz9 hcd)) (by first | exact hka | (rw [e1, e5]; first | exact hka | exact ka_y (by omega) hz9)) H locs hP hD hS ls (lv_sub hl [2, 3, 0] rfl)
        · skip
          have c36 : ¬ rcn ((bn * 4) + cx) = (-1) := kb_1.mp c36
          have hPc := hZ cx (by omega)
          obtain ⟨z9, hz0⟩ : ∃ z, (Z cx).map Prod.snd = some z := by cases h9 : (Z cx).map Prod.snd with | none => exact absurd ((ke_has hPc).mpr h9) c36 | some z => exact ⟨z, rfl⟩
          have hKs : (fun z => (Z z).map Prod.snd) cx = some z9 := hz0
          rw [hz0] at hPc
          obtain ⟨hz9, hp1, hp2, hp3, hp4⟩ := hPc
          refine lv_aload_n hx hb dd_Se_noteEnd_39 rfl (lv_at hl 1 rfl) ?_
          refine va_get (D := D) (ci := 7) (v := .ref v1) (C := rr_Se) (T := tt_Se) (N := 17) hx hb hts hin7 hown hK hP 0 kg_18_0 rfl 4 (by decide) lk0 (fun _ h9 => h9) rfl dd_Se_noteEnd_40 ?_
          refine lv_iconst (v := nI 0) hx hb dd_Se_noteEnd_43 (by decide) ?_
          refine lv_aload_n hx hb dd_Se_noteEnd_44 rfl (lv_at hl 1 rfl) ?_
          refine va_get (D := D) (ci := 7) (v := .ref v4) (C := rr_Se) (T := tt_Se) (N := 17) hx hb hts hin7 hown hK hP 0 kg_18_0 rfl 7 (by decide) lk13 (fun _ h9 => h9) rfl dd_Se_noteEnd_45 ?_
          refine va_get (D := D) (ci := 6) (v := .ref qn0) (C := rr_Rw) (T := tt_Rw) (N := 5) hx hb hts hin6 hown hK hP 12 kg_18_12 rfl 1 (by decide) lk5 (fun _ h9 => h9) rfl dd_Se_noteEnd_48 ?_
          refine lv_iload_n hx hb dd_Se_noteEnd_51 rfl (lv_at hl 0 rfl) ?_
          refine kx_lald (q0 := 13) (t0 := 1) hx hb dd_Se_noteEnd_52 hK hP kg_18_13 rfl (by omega) (by omega) ?_
          refine lv_aload_n hx hb dd_Se_noteEnd_53 rfl (lv_at hl 1 rfl) ?_
          refine va_get (D := D) (ci := 7) (v := .ref v4) (C := rr_Se) (T := tt_Se) (N := 17) hx hb hts hin7 hown hK hP 0 kg_18_0 rfl 7 (by decide) lk13 (fun _ h9 => h9) rfl dd_Se_noteEnd_54 ?_
          refine va_get (D := D) (ci := 6) (v := .ref qn1) (C := rr_Rw) (T := tt_Rw) (N := 5) hx hb hts hin6 hown hK hP 12 kg_18_12 rfl 2 (by decide) lk6 (fun _ h9 => h9) rfl dd_Se_noteEnd_57 ?_
          refine lv_iload_n hx hb dd_Se_noteEnd_60 rfl (lv_at hl 0 rfl) ?_
          refine kx_iald (q0 := 14) (t0 := 0) hx hb dd_Se_noteEnd_61 hK hP kg_18_14 rfl (by omega) (by omega) ?_
          refine lv_aload_n hx hb dd_Se_noteEnd_62 rfl (lv_at hl 1 rfl) ?_
          refine va_get (D := D) (ci := 7) (v := .ref v4) (C := rr_Se) (T := tt_Se) (N := 17) hx hb hts hin7 hown hK hP 0 kg_18_0 rfl 7 (by decide) lk13 (fun _ h9 => h9) rfl dd_Se_noteEnd_63 ?_
          refine va_get (D := D) (ci := 6) (v := .ref qn2) (C := rr_Rw) (T := tt_Rw) (N := 5) hx hb hts hin6 hown hK hP 12 kg_18_12 rfl 3 (by decide) lk7 (fun _ h9 => h9) rfl dd_Se_noteEnd_66 ?_
          refine lv_iload_n hx hb dd_Se_noteEnd_69 rfl (lv_at hl 0 rfl) ?_
          refine kx_lald (q0 := 15) (t0 := 1) hx hb dd_Se_noteEnd_70 hK hP kg_18_15 rfl (by omega) (by omega) ?_
          refine lv_aload_n hx hb dd_Se_noteEnd_71 rfl (lv_at hl 1 rfl) ?_
          refine va_get (D := D) (ci := 7) (v := .ref v4) (C := rr_Se) (T := tt_Se) (N := 17) hx hb hts hin7 hown hK hP 0 kg_18_0 rfl 7 (by decide) lk13 (fun _ h9 => h9) rfl dd_Se_noteEnd_72 ?_
          refine va_get (D := D) (ci := 6) (v := .ref qn3) (C := rr_Rw) (T := tt_Rw) (N := 5) hx hb hts hin6 hown hK hP 12 kg_18_12 rfl 4 (by decide) lk8 (fun _ h9 => h9) rfl dd_Se_noteEnd_75 ?_
          refine lv_iload_n hx hb dd_Se_noteEnd_78 rfl (lv_at hl 0 rfl) ?_
          refine kx_iald (q0 := 16) (t0 := 0) hx hb dd_Se_noteEnd_79 hK hP kg_18_16 rfl (by omega) (by omega) ?_
          refine kx_calli (wr := [(h, .inr (7, [.ref g, .ref t, .ref k, .ref f, .ref v1, .ref v2, .ref v3, .ref v4, .int (nI ps), .int (nI ly), .int op, .int (nI pl), .int (nI wl), .int (nI wc), .ref v5, .ref v6, .ref v7])), (k, .inr (2, [.int (nI bn), .int (nI lf), .ref j1, .ref j2, .ref j3, .ref j4, .ref j5, .ref j6, .ref j7])), (v2, .inr (6, [.int ans, .ref qs0, .ref qs1, .ref qs2, .ref qs3])), (qs0, .inl (cJ, zs, .inr (.inl ros))), (qs1, .inl (cI, zs, .inl rvs)), (qs2, .inl (cJ, zs, .inr (.inl rds))), (qs3, .inl (cI, zs, .inl rcs)), (v4, .inr (6, [.int ann, .ref qn0, .ref qn1, .ref qn2, .ref qn3])), (qn0, .inl (cJ, zn, .inr (.inl ron))), (qn1, .inl (cI, zn, .inl rvn)), (qn2, .inl (cJ, zn, .inr (.inl rdn))), (qn3, .inl (cI, zn, .inl rcn)), (v5, .inl (cI, le, .inl ec1))]) (va_runV (C := rr_Rw) (As := [.int (nI 0), .long (ron ((bn * 4) + cx)), .int (rvn ((bn * 4) + cx)), .long (rdn ((bn * 4) + cx)), .int (rcn ((bn * 4) + cx))]) (rest := []) ⟨hx, hb, hml, hown, hts⟩ (ct_Rw_offer l D cI cJ cZ H.size v1 ql0 ql1 ql2 ql3 zl al1 rol1 rvl1 rdl1 rcl1 0 (ron ((bn * 4) + cx)) (rvn ((bn * 4) + cx)) (rdn ((bn * 4) + cx)) (rcn ((bn * 4) + cx)) (by omega) (by omega)) ⟨(callB_of 5 hts (kx_good kw_657) rfl rfl rfl (hts _ (kx_m kw_51)) (hts _ (kx_m kw_654)) (by decide +kernel) ⟨Nat.le_of_ble_eq_true rfl, Nat.le_of_ble_eq_true rfl⟩), (hts _ (kx_m kw_655)), (hts _ (kx_m kw_656))⟩ (kx_preV (ci := 6) (q0 := 0) hK hN (hP.sub [2, 3, 4, 5, 6] kt_18_2_3_4_5_6) (hD.sub [2, 3, 4, 5, 6] (by decide) ks_18_2_3_4_5_6) rfl kg_5_0) rfl rfl hl.1 rfl (lv_room (Nat.le_of_ble_eq_true rfl)) dd_Se_noteEnd_80 ⟨Nat.le_of_ble_eq_true rfl, Nat.le_of_ble_eq_true rfl⟩) hP hD hS hA [2, 3, 4, 5, 6] [0, 1, 7, 8, 9, 10, 11, 12, 13, 14, 15, 16, 17] ks_18_2_3_4_5_6 ks_18_0_1_7_8_9_10_11_12_13_14_15_16_17 (by decide) (by decide) (fun r80 u80 H locs hw80 hP hD hS => ?_)
          obtain ⟨an2_80, ro2_80, rv2_80, rd2_80, rc2_80⟩ := u80
          have hP : va_P D vwCl [(h, .inr (7, [.ref g, .ref t, .ref k, .ref f, .ref v1, .ref v2, .ref v3, .ref v4, .int (nI ps), .int (nI ly), .int op, .int (nI pl), .int (nI wl), .int (nI wc), .ref v5, .ref v6, .ref v7])), (k, .inr (2, [.int (nI bn), .int (nI lf), .ref j1, .ref j2, .ref j3, .ref j4, .ref j5, .ref j6, .ref j7])), (v2, .inr (6, [.int ans, .ref qs0, .ref qs1, .ref qs2, .ref qs3])), (qs0, .inl (cJ, zs, .inr (.inl ros))), (qs1, .inl (cI, zs, .inl rvs)), (qs2, .inl (cJ, zs, .inr (.inl rds))), (qs3, .inl (cI, zs, .inl rcs)), (v4, .inr (6, [.int ann, .ref qn0, .ref qn1, .ref qn2, .ref qn3])), (qn0, .inl (cJ, zn, .inr (.inl ron))), (qn1, .inl (cI, zn, .inl rvn)), (qn2, .inl (cJ, zn, .inr (.inl rdn))), (qn3, .inl (cI, zn, .inl rcn)), (v5, .inl (cI, le, .inl ec1)), (v1, .inr (6, [.int an2_80, .ref ql0, .ref ql1, .ref ql2, .ref ql3])), (ql0, .inl (cJ, zl, .inr (.inl ro2_80))), (ql1, .inl (cI, zl, .inl rv2_80)), (ql2, .inl (cJ, zl, .inr (.inl rd2_80))), (ql3, .inl (cI, zl, .inl rc2_80))] H := hP
          have hD : va_D A [(h, .inr (7, [.ref g, .ref t, .ref k, .ref f, .ref v1, .ref v2, .ref v3, .ref v4, .int (nI ps), .int (nI ly), .int op, .int (nI pl), .int (nI wl), .int (nI wc), .ref v5, .ref v6, .ref v7])), (k, .inr (2, [.int (nI bn), .int (nI lf), .ref j1, .ref j2, .ref j3, .ref j4, .ref j5, .ref j6, .ref j7])), (v2, .inr (6, [.int ans, .ref qs0, .ref qs1, .ref qs2, .ref qs3])), (qs0, .inl (cJ, zs, .inr (.inl ros))), (qs1, .inl (cI, zs, .inl rvs)), (qs2, .inl (cJ, zs, .inr (.inl rds))), (qs3, .inl (cI, zs, .inl rcs)), (v4, .inr (6, [.int ann, .ref qn0, .ref qn1, .ref qn2, .ref qn3])), (qn0, .inl (cJ, zn, .inr (.inl ron))), (qn1, .inl (cI, zn, .inl rvn)), (qn2, .inl (cJ, zn, .inr (.inl rdn))), (qn3, .inl (cI, zn, .inl rcn)), (v5, .inl (cI, le, .inl ec1)), (v1, .inr (6, [.int an2_80, .ref ql0, .ref ql1, .ref ql2, .ref ql3])), (ql0, .inl (cJ, zl, .inr (.inl ro2_80))), (ql1, .inl (cI, zl, .inl rv2_80)), (ql2, .inl (cJ, zl, .inr (.inl rd2_80))), (ql3, .inl (cI, zl, .inl rc2_80))] := hD
          have hP : va_P D vwCl [(h, .inr (7, [.ref g, .ref t, .ref k, .ref f, .ref v1, .ref v2, .ref v3, .ref v4, .int (nI ps), .int (nI ly), .int op, .int (nI pl), .int (nI wl), .int (nI wc), .ref v5, .ref v6, .ref v7])), (k, .inr (2, [.int (nI bn), .int (nI lf), .ref j1, .ref j2, .ref j3, .ref j4, .ref j5, .ref j6, .ref j7])), (v1, .inr (6, [.int an2_80, .ref ql0, .ref ql1, .ref ql2, .ref ql3])), (ql0, .inl (cJ, zl, .inr (.inl ro2_80))), (ql1, .inl (cI, zl, .inl rv2_80)), (ql2, .inl (cJ, zl, .inr (.inl rd2_80))), (ql3, .inl (cI, zl, .inl rc2_80)), (v2, .inr (6, [.int ans, .ref qs0, .ref qs1, .ref qs2, .ref qs3])), (qs0, .inl (cJ, zs, .inr (.inl ros))), (qs1, .inl (cI, zs, .inl rvs)), (qs2, .inl (cJ, zs, .inr (.inl rds))), (qs3, .inl (cI, zs, .inl rcs)), (v4, .inr (6, [.int ann, .ref qn0, .ref qn1, .ref qn2, .ref qn3])), (qn0, .inl (cJ, zn, .inr (.inl ron))), (qn1, .inl (cI, zn, .inl rvn)), (qn2, .inl (cJ, zn, .inr (.inl rdn))), (qn3, .inl (cI, zn, .inl rcn)), (v5, .inl (cI, le, .inl ec1))] H := hP.sub [0, 1, 13, 14, 15, 16, 17, 2, 3, 4, 5, 6, 7, 8, 9, 10, 11, 12] kt_18_0_1_13_14_15_16_17_2_3_4_5_6_7_8_9_10_11_12
          have hD : va_D A [(h, .inr (7, [.ref g, .ref t, .ref k, .ref f, .ref v1, .ref v2, .ref v3, .ref v4, .int (nI ps), .int (nI ly), .int op, .int (nI pl), .int (nI wl), .int (nI wc), .ref v5, .ref v6, .ref v7])), (k, .inr (2, [.int (nI bn), .int (nI lf), .ref j1, .ref j2, .ref j3, .ref j4, .ref j5, .ref j6, .ref j7])), (v1, .inr (6, [.int an2_80, .ref ql0, .ref ql1, .ref ql2, .ref ql3])), (ql0, .inl (cJ, zl, .inr (.inl ro2_80))), (ql1, .inl (cI, zl, .inl rv2_80)), (ql2, .inl (cJ, zl, .inr (.inl rd2_80))), (ql3, .inl (cI, zl, .inl rc2_80)), (v2, .inr (6, [.int ans, .ref qs0, .ref qs1, .ref qs2, .ref qs3])), (qs0, .inl (cJ, zs, .inr (.inl ros))), (qs1, .inl (cI, zs, .inl rvs)), (qs2, .inl (cJ, zs, .inr (.inl rds))), (qs3, .inl (cI, zs, .inl rcs)), (v4, .inr (6, [.int ann, .ref qn0, .ref qn1, .ref qn2, .ref qn3])), (qn0, .inl (cJ, zn, .inr (.inl ron))), (qn1, .inl (cI, zn, .inl rvn)), (qn2, .inl (cJ, zn, .inr (.inl rdn))), (qn3, .inl (cI, zn, .inl rcn)), (v5, .inl (cI, le, .inl ec1))] := hD.sub [0, 1, 13, 14, 15, 16, 17, 2, 3, 4, 5, 6, 7, 8, 9, 10, 11, 12] (by decide) ks_18_0_1_13_14_15_16_17_2_3_4_5_6_7_8_9_10_11_12
          obtain ⟨rfl, hw80⟩ := hw80
          have hw80 : (if rcl1 0 = (-1) ∨ pk_bt (ron ((bn * 4) + cx)) (rol1 0) (rvn ((bn * 4) + cx)) (rvl1 0) (rdn ((bn * 4) + cx)) (rdl1 0) (rcn ((bn * 4) + cx)) (rcl1 0) then an2_80 = nI 1 ∧ ro2_80 = vp_updL rol1 0 (ron ((bn * 4) + cx)) ∧ rv2_80 = upd rvl1 0 (rvn ((bn * 4) + cx)) ∧ rd2_80 = vp_updL rdl1 0 (rdn ((bn * 4) + cx)) ∧ rc2_80 = upd rcl1 0 (rcn ((bn * 4) + cx)) else an2_80 = al1 ∧ ro2_80 = rol1 ∧ rv2_80 = rvl1 ∧ rd2_80 = rdl1 ∧ rc2_80 = rcl1) := hw80
          refine lv_if_eq (tgt := 93) hx hb dd_Se_noteEnd_83 (by decide) (fun c83 => ?_) (fun c83 => ?_)
          · skip
            have c83 : ¬ (rcl1 0 = (-1) ∨ pk_bt (ron ((bn * 4) + cx)) (rol1 0) (rvn ((bn * 4) + cx)) (rvl1 0) (rdn ((bn * 4) + cx)) (rdl1 0) (rcn ((bn * 4) + cx)) (rcl1 0)) := kb_0.mp c83
            have hcd := c83
            rw [hp1, hp2, hp3, hp4] at hcd hw80
            rw [if_neg hcd] at hw80
            obtain ⟨e1, e2, e3, e4, e5⟩ := hw80
            refine lv_iinc (v := nI (cx + 1)) (lv' := [(2, .int (nI (cx + 1))), (3, .int (nI ((bn * 4) + cx))), (0, .ref h), (1, .int (nI n))]) hx hb dd_Se_noteEnd_93 hl (k := 3) rfl (nI_add cx 1) (by decide) rfl (fun ls hl => ?_)
            refine lv_goto (tgt := 11) hx hb dd_Se_noteEnd_96 (by decide) ?_
            exact ih_11 (cx + 1) an2_80 ro2_80 rv2_80 rd2_80 rc2_80 ec1 (by omega) (by omega) (by first | exact kn_n hat hKn | (rw [e2, e3, e4, e5]; exact kn_k hat hKs hz9 hcd) | (rw [e2, e3, e4, e5]; exact kn_y hat hKs hz9 hcd)) (by first | exact hka | (rw [e1, e5]; first | exact hka | exact ka_y (by omega) hz9)) H locs hP hD hS ls (lv_sub hl [2, 3, 0] rfl)
          · skip
            have c83 : rcl1 0 = (-1) ∨ pk_bt (ron ((bn * 4) + cx)) (rol1 0) (rvn ((bn * 4) + cx)) (rvl1 0) (rdn ((bn * 4) + cx)) (rdl1 0) (rcn ((bn * 4) + cx)) (rcl1 0) := kb_1.mp c83
            have hcd := c83
            rw [hp1, hp2, hp3, hp4] at hcd hw80
            rw [if_pos hcd] at hw80
            obtain ⟨e1, e2, e3, e4, e5⟩ := hw80
            refine lv_aload_n hx hb dd_Se_noteEnd_86 rfl (lv_at hl 1 rfl) ?_
            refine va_get (D := D) (ci := 7) (v := .ref v5) (C := rr_Se) (T := tt_Se) (N := 17) hx hb hts hin7 hown hK hP 0 kg_18_0 rfl 14 (by decide) lk14 (fun _ h9 => h9) rfl dd_Se_noteEnd_87 ?_
            refine lv_iload_n hx hb dd_Se_noteEnd_90 rfl (lv_at hl 2 rfl) ?_
            refine lv_iload_n hx hb dd_Se_noteEnd_91 rfl (lv_at hl 3 rfl) ?_
            refine kx_iast (q0 := 17) (t0 := 0) hx hb dd_Se_noteEnd_92 hK hP hD hS kg_18_17 rfl (by omega) (by omega) (fun H locs hP hD hS => ?_)
            have hP : va_P D vwCl [(h, .inr (7, [.ref g, .ref t, .ref k, .ref f, .ref v1, .ref v2, .ref v3, .ref v4, .int (nI ps), .int (nI ly), .int op, .int (nI pl), .int (nI wl), .int (nI wc), .ref v5, .ref v6, .ref v7])), (k, .inr (2, [.int (nI bn), .int (nI lf), .ref j1, .ref j2, .ref j3, .ref j4, .ref j5, .ref j6, .ref j7])), (v1, .inr (6, [.int an2_80, .ref ql0, .ref ql1, .ref ql2, .ref ql3])), (ql0, .inl (cJ, zl, .inr (.inl ro2_80))), (ql1, .inl (cI, zl, .inl rv2_80)), (ql2, .inl (cJ, zl, .inr (.inl rd2_80))), (ql3, .inl (cI, zl, .inl rc2_80)), (v2, .inr (6, [.int ans, .ref qs0, .ref qs1, .ref qs2, .ref qs3])), (qs0, .inl (cJ, zs, .inr (.inl ros))), (qs1, .inl (cI, zs, .inl rvs)), (qs2, .inl (cJ, zs, .inr (.inl rds))), (qs3, .inl (cI, zs, .inl rcs)), (v4, .inr (6, [.int ann, .ref qn0, .ref qn1, .ref qn2, .ref qn3])), (qn0, .inl (cJ, zn, .inr (.inl ron))), (qn1, .inl (cI, zn, .inl rvn)), (qn2, .inl (cJ, zn, .inr (.inl rdn))), (qn3, .inl (cI, zn, .inl rcn)), (v5, .inl (cI, le, .inl (upd ec1 n (nI cx))))] H := kx_cP kz_18_17 hP
            have hD : va_D A [(h, .inr (7, [.ref g, .ref t, .ref k, .ref f, .ref v1, .ref v2, .ref v3, .ref v4, .int (nI ps), .int (nI ly), .int op, .int (nI pl), .int (nI wl), .int (nI wc), .ref v5, .ref v6, .ref v7])), (k, .inr (2, [.int (nI bn), .int (nI lf), .ref j1, .ref j2, .ref j3, .ref j4, .ref j5, .ref j6, .ref j7])), (v1, .inr (6, [.int an2_80, .ref ql0, .ref ql1, .ref ql2, .ref ql3])), (ql0, .inl (cJ, zl, .inr (.inl ro2_80))), (ql1, .inl (cI, zl, .inl rv2_80)), (ql2, .inl (cJ, zl, .inr (.inl rd2_80))), (ql3, .inl (cI, zl, .inl rc2_80)), (v2, .inr (6, [.int ans, .ref qs0, .ref qs1, .ref qs2, .ref qs3])), (qs0, .inl (cJ, zs, .inr (.inl ros))), (qs1, .inl (cI, zs, .inl rvs)), (qs2, .inl (cJ, zs, .inr (.inl rds))), (qs3, .inl (cI, zs, .inl rcs)), (v4, .inr (6, [.int ann, .ref qn0, .ref qn1, .ref qn2, .ref qn3])), (qn0, .inl (cJ, zn, .inr (.inl ron))), (qn1, .inl (cI, zn, .inl rvn)), (qn2, .inl (cJ, zn, .inr (.inl rdn))), (qn3, .inl (cI, zn, .inl rcn)), (v5, .inl (cI, le, .inl (upd ec1 n (nI cx))))] := kx_cD kz_18_17 hD
            refine lv_iinc (v := nI (cx + 1)) (lv' := [(2, .int (nI (cx + 1))), (3, .int (nI ((bn * 4) + cx))), (0, .ref h), (1, .int (nI n))]) hx hb dd_Se_noteEnd_93 hl (k := 3) rfl (nI_add cx 1) (by decide) rfl (fun ls hl => ?_)
            refine lv_goto (tgt := 11) hx hb dd_Se_noteEnd_96 (by decide) ?_
            exact ih_11 (cx + 1) an2_80 ro2_80 rv2_80 rd2_80 rc2_80 (upd ec1 n (nI cx)) (by omega) (by omega) (by first | exact kn_n hat hKn | (rw [e2, e3, e4, e5]; exact kn_k hat hKs hz9 hcd) | (rw [e2, e3, e4, e5]; exact kn_y hat hKs hz9 hcd)) (by first | exact hka | (rw [e1, e5]; first | exact hka | exact ka_y (by omega) hz9)) H locs hP hD hS ls (lv_sub hl [2, 3, 0] rfl)
  exact lp11 ((4 - 0) + 1) 0 (nI 0) rol rvl rdl rc2_6 ec (Nat.lt_succ_self _) (by omega) (⟨none, hw6 0 (by omega), qb_0, rfl⟩) (⟨Or.inl rfl, fun _ p hp => hw6 p (by omega), fun _ => nI_0⟩) H locs hP hD hS ls (lv_sub hl [1, 2, 0] rfl)

theorem dd_Md_put_0 : decode bb_Md_put 0 = .ok (.iload_n 1, 1) := by decide +kernel
theorem dd_Md_put_1 : decode bb_Md_put 1 = .ok (.ifCond .lt (12), 3) := by decide +kernel
theorem dd_Md_put_4 : decode bb_Md_put 4 = .ok (.iload_n 1, 1) := by decide +kernel
theorem dd_Md_put_5 : decode bb_Md_put 5 = .ok (.aload_n 0, 1) := by decide +kernel
theorem dd_Md_put_6 : decode bb_Md_put 6 = .ok (.getfield 15, 3) := by decide +kernel
theorem dd_Md_put_9 : decode bb_Md_put 9 = .ok (.arraylength, 1) := by decide +kernel
theorem dd_Md_put_10 : decode bb_Md_put 10 = .ok (.if_icmp .lt (4), 3) := by decide +kernel
theorem dd_Md_put_13 : decode bb_Md_put 13 = .ok (.return_, 1) := by decide +kernel
theorem dd_Md_put_14 : decode bb_Md_put 14 = .ok (.aload_n 0, 1) := by decide +kernel
theorem dd_Md_put_15 : decode bb_Md_put 15 = .ok (.getfield 15, 3) := by decide +kernel
theorem dd_Md_put_18 : decode bb_Md_put 18 = .ok (.iload_n 1, 1) := by decide +kernel
theorem dd_Md_put_19 : decode bb_Md_put 19 = .ok (.iload_n 2, 1) := by decide +kernel
theorem dd_Md_put_20 : decode bb_Md_put 20 = .ok (.iastore, 1) := by decide +kernel
theorem dd_Md_put_21 : decode bb_Md_put 21 = .ok (.aload_n 0, 1) := by decide +kernel
theorem dd_Md_put_22 : decode bb_Md_put 22 = .ok (.getfield 19, 3) := by decide +kernel
theorem dd_Md_put_25 : decode bb_Md_put 25 = .ok (.iload_n 1, 1) := by decide +kernel
theorem dd_Md_put_26 : decode bb_Md_put 26 = .ok (.iload_n 3, 1) := by decide +kernel
theorem dd_Md_put_27 : decode bb_Md_put 27 = .ok (.iastore, 1) := by decide +kernel
theorem dd_Md_put_28 : decode bb_Md_put 28 = .ok (.aload_n 0, 1) := by decide +kernel
theorem dd_Md_put_29 : decode bb_Md_put 29 = .ok (.getfield 22, 3) := by decide +kernel
theorem dd_Md_put_32 : decode bb_Md_put 32 = .ok (.iload_n 1, 1) := by decide +kernel
theorem dd_Md_put_33 : decode bb_Md_put 33 = .ok (.aload 4, 2) := by decide +kernel
theorem dd_Md_put_35 : decode bb_Md_put 35 = .ok (.getfield 52, 3) := by decide +kernel
theorem dd_Md_put_38 : decode bb_Md_put 38 = .ok (.iastore, 1) := by decide +kernel
theorem dd_Md_put_39 : decode bb_Md_put 39 = .ok (.aload_n 0, 1) := by decide +kernel
theorem dd_Md_put_40 : decode bb_Md_put 40 = .ok (.getfield 25, 3) := by decide +kernel
theorem dd_Md_put_43 : decode bb_Md_put 43 = .ok (.iload_n 1, 1) := by decide +kernel
theorem dd_Md_put_44 : decode bb_Md_put 44 = .ok (.aload 4, 2) := by decide +kernel
theorem dd_Md_put_46 : decode bb_Md_put 46 = .ok (.getfield 56, 3) := by decide +kernel
theorem dd_Md_put_49 : decode bb_Md_put 49 = .ok (.iastore, 1) := by decide +kernel
theorem dd_Md_put_50 : decode bb_Md_put 50 = .ok (.aload_n 0, 1) := by decide +kernel
theorem dd_Md_put_51 : decode bb_Md_put 51 = .ok (.getfield 28, 3) := by decide +kernel
theorem dd_Md_put_54 : decode bb_Md_put 54 = .ok (.iload_n 1, 1) := by decide +kernel
theorem dd_Md_put_55 : decode bb_Md_put 55 = .ok (.ldc2_w 58, 3) := by decide +kernel
theorem dd_Md_put_58 : decode bb_Md_put 58 = .ok (.aload 4, 2) := by decide +kernel
theorem dd_Md_put_60 : decode bb_Md_put 60 = .ok (.getfield 60, 3) := by decide +kernel
theorem dd_Md_put_63 : decode bb_Md_put 63 = .ok (.invokestatic 62, 3) := by decide +kernel
theorem dd_Md_put_66 : decode bb_Md_put 66 = .ok (.l2i, 1) := by decide +kernel
theorem dd_Md_put_67 : decode bb_Md_put 67 = .ok (.iastore, 1) := by decide +kernel
theorem dd_Md_put_68 : decode bb_Md_put 68 = .ok (.aload_n 0, 1) := by decide +kernel
theorem dd_Md_put_69 : decode bb_Md_put 69 = .ok (.dup, 1) := by decide +kernel
theorem dd_Md_put_70 : decode bb_Md_put 70 = .ok (.getfield 49, 3) := by decide +kernel
theorem dd_Md_put_73 : decode bb_Md_put 73 = .ok (.aload 4, 2) := by decide +kernel
theorem dd_Md_put_75 : decode bb_Md_put 75 = .ok (.getfield 60, 3) := by decide +kernel
theorem dd_Md_put_78 : decode bb_Md_put 78 = .ok (.ladd, 1) := by decide +kernel
theorem dd_Md_put_79 : decode bb_Md_put 79 = .ok (.putfield 49, 3) := by decide +kernel
theorem dd_Md_put_82 : decode bb_Md_put 82 = .ok (.return_, 1) := by decide +kernel

set_option maxHeartbeats 4000000 in
set_option maxRecDepth 100000 in
theorem ct_Md_put (l : Launch) (D : va_G) (cI cJ cZ : ClassId) (sz : Nat) (o : Nat) (mp : Nat) (ml : Nat) (mv : Int32) (md : Int64) (mo : Int64) (y0 : Nat) (y1 : Nat) (y2 : Nat) (y3 : Nat) (y4 : Nat) (ld : Nat) (f0 : Nat → Int32) (f1 : Nat → Int32) (f2 : Nat → Int32) (f3 : Nat → Int32) (f4 : Nat → Int32) (f : Nat) (fb : Int32) (fc : Nat) (fo : Int64) (at9 : Nat) (b9 : Int32) (e9 : Int32) (hat : at9 < ld) (hld : ld < 2 ^ 20) : kx_Mv l yy_Md_put ww_Md_put ({ frames := 1, cells := 0, slots := 0, locals := 23 }) D vwCl (kx_ty cI cJ cZ) [.ref o, .int (nI at9), .int b9, .int e9, .ref f] [(o, .inr (5, [.int (nI mp), .int (nI ml), .int mv, .long md, .long mo, .ref y0, .ref y1, .ref y2, .ref y3, .ref y4])), (y0, .inl (cI, ld, .inl f0)), (y1, .inl (cI, ld, .inl f1)), (y2, .inl (cI, ld, .inl f2)), (y3, .inl (cI, ld, .inl f3)), (y4, .inl (cI, ld, .inl f4)), (f, .inr (3, [.int fb, .int (nI fc), .long fo]))] sz (fun (u : Unit) => True) (fun (u : Unit) => [(o, .inr (5, [.int (nI mp), .int (nI ml), .int mv, .long md, .long (mo + fo), .ref y0, .ref y1, .ref y2, .ref y3, .ref y4])), (y0, .inl (cI, ld, .inl (upd f0 at9 b9))), (y1, .inl (cI, ld, .inl (upd f1 at9 e9))), (y2, .inl (cI, ld, .inl (upd f2 at9 fb))), (y3, .inl (cI, ld, .inl (upd f3 at9 (nI fc)))), (y4, .inl (cI, ld, .inl (upd f4 at9 (if fo < 2147483647 then fo else 2147483647).toInt32))), (f, .inr (3, [.int fb, .int (nI fc), .long fo]))]) 0 0 := by
  refine kx_startv (by decide) rfl (Nat.le_of_ble_eq_true rfl) ?_
  intro p e s m below meth c A ls hx hb hr hml hts hown hlocks hin hP hK hN hD hA hS hl
  have hl : lv_has ls 5 [(0, .ref o), (1, .int (nI at9)), (2, .int b9), (3, .int e9), (4, .ref f)] := hl
  have hown : s.vm.findClass rr_Md = some m.cls := hown
  have lk0 := hts _ (kx_m kw_355)
  have hin5 : ∀ w ∈ u_ws rr_Md tt_Md 10, w ∈ ww_Md_put := fun w h => kx_m (kf_Md w h)
  have lk2 := hts _ (kx_m kw_357)
  have lk3 := hts _ (kx_m kw_359)
  have lk4 := hts _ (kx_m kw_231)
  have hin3 : ∀ w ∈ u_ws rr_Ft tt_Ft 3, w ∈ ww_Md_put := fun w h => kx_m (kf_Ft w h)
  have lk6 := hts _ (kx_m kw_361)
  have lk7 := hts _ (kx_m kw_234)
  have lk8 := hts _ (kx_m kw_363)
  have lk9 := hts _ (kx_m kw_762)
  have lk10 := hts _ (kx_m kw_237)
  have lk11 := hts _ (kx_m kw_353)
  obtain ⟨H, hH⟩ : ∃ H, H = s.heap := ⟨_, rfl⟩
  obtain ⟨locs, hlocs⟩ : ∃ z : List Loc, z = [] := ⟨_, rfl⟩
  have hP : va_P D vwCl [(o, .inr (5, [.int (nI mp), .int (nI ml), .int mv, .long md, .long mo, .ref y0, .ref y1, .ref y2, .ref y3, .ref y4])), (y0, .inl (cI, ld, .inl f0)), (y1, .inl (cI, ld, .inl f1)), (y2, .inl (cI, ld, .inl f2)), (y3, .inl (cI, ld, .inl f3)), (y4, .inl (cI, ld, .inl f4)), (f, .inr (3, [.int fb, .int (nI fc), .long fo]))] H := by rw [hH]; exact hP
  have hS : va_S A s.heap H locs := by rw [hH, hlocs]; exact hS
  refine kx_gen hH hlocs ?_
  clear hH hlocs
  refine kx_nameQ (fun Q hQ => ?_)
  refine lv_iload_n hx hb dd_Md_put_0 rfl (lv_at hl 1 rfl) ?_
  refine lv_if_lt (tgt := 13) hx hb dd_Md_put_1 (by decide) (fun c1 => ?_) (fun c1 => ?_)
  · skip
    have c1 : at9 < 0 := (kn_lt0 (by omega)).mp c1
    exact absurd c1 (by omega)
  · skip
    have c1 : ¬ (at9 < 0) := fun h => c1 ((kn_lt0 (by omega)).mpr h)
    refine lv_iload_n hx hb dd_Md_put_4 rfl (lv_at hl 1 rfl) ?_
    refine lv_aload_n hx hb dd_Md_put_5 rfl (lv_at hl 0 rfl) ?_
    refine va_get (D := D) (ci := 5) (v := .ref y0) (C := rr_Md) (T := tt_Md) (N := 10) hx hb hts hin5 hown hK hP 0 kg_7_0 rfl 5 (by decide) lk0 (fun _ h9 => h9) rfl dd_Md_put_6 ?_
    refine va_alen hx hb hK hP 1 0 kg_7_1 rfl (v := nI ld) rfl dd_Md_put_9 ?_
    refine lv_icmp_lt (tgt := 14) hx hb dd_Md_put_10 (by decide) (fun c10 => ?_) (fun c10 => ?_)
    · skip
      have c10 : at9 < ld := (nI_ltI (by omega) (by omega)).mp c10
      refine lv_aload_n hx hb dd_Md_put_14 rfl (lv_at hl 0 rfl) ?_
      refine va_get (D := D) (ci := 5) (v := .ref y0) (C := rr_Md) (T := tt_Md) (N := 10) hx hb hts hin5 hown hK hP 0 kg_7_0 rfl 5 (by decide) lk0 (fun _ h9 => h9) rfl dd_Md_put_15 ?_
      refine lv_iload_n hx hb dd_Md_put_18 rfl (lv_at hl 1 rfl) ?_
      refine lv_iload_n hx hb dd_Md_put_19 rfl (lv_at hl 2 rfl) ?_
      refine kx_iast (q0 := 1) (t0 := 0) hx hb dd_Md_put_20 hK hP hD hS kg_7_1 rfl (by omega) (by omega) (fun H locs hP hD hS => ?_)
      have hP : va_P D vwCl [(o, .inr (5, [.int (nI mp), .int (nI ml), .int mv, .long md, .long mo, .ref y0, .ref y1, .ref y2, .ref y3, .ref y4])), (y0, .inl (cI, ld, .inl (upd f0 at9 b9))), (y1, .inl (cI, ld, .inl f1)), (y2, .inl (cI, ld, .inl f2)), (y3, .inl (cI, ld, .inl f3)), (y4, .inl (cI, ld, .inl f4)), (f, .inr (3, [.int fb, .int (nI fc), .long fo]))] H := kx_cP kz_7_1 hP
      have hD : va_D A [(o, .inr (5, [.int (nI mp), .int (nI ml), .int mv, .long md, .long mo, .ref y0, .ref y1, .ref y2, .ref y3, .ref y4])), (y0, .inl (cI, ld, .inl (upd f0 at9 b9))), (y1, .inl (cI, ld, .inl f1)), (y2, .inl (cI, ld, .inl f2)), (y3, .inl (cI, ld, .inl f3)), (y4, .inl (cI, ld, .inl f4)), (f, .inr (3, [.int fb, .int (nI fc), .long fo]))] := kx_cD kz_7_1 hD
      refine lv_aload_n hx hb dd_Md_put_21 rfl (lv_at hl 0 rfl) ?_
      refine va_get (D := D) (ci := 5) (v := .ref y1) (C := rr_Md) (T := tt_Md) (N := 10) hx hb hts hin5 hown hK hP 0 kg_7_0 rfl 6 (by decide) lk2 (fun _ h9 => h9) rfl dd_Md_put_22 ?_
      refine lv_iload_n hx hb dd_Md_put_25 rfl (lv_at hl 1 rfl) ?_
      refine lv_iload_n hx hb dd_Md_put_26 rfl (lv_at hl 3 rfl) ?_
      refine kx_iast (q0 := 2) (t0 := 0) hx hb dd_Md_put_27 hK hP hD hS kg_7_2 rfl (by omega) (by omega) (fun H locs hP hD hS => ?_)
      have hP : va_P D vwCl [(o, .inr (5, [.int (nI mp), .int (nI ml), .int mv, .long md, .long mo, .ref y0, .ref y1, .ref y2, .ref y3, .ref y4])), (y0, .inl (cI, ld, .inl (upd f0 at9 b9))), (y1, .inl (cI, ld, .inl (upd f1 at9 e9))), (y2, .inl (cI, ld, .inl f2)), (y3, .inl (cI, ld, .inl f3)), (y4, .inl (cI, ld, .inl f4)), (f, .inr (3, [.int fb, .int (nI fc), .long fo]))] H := kx_cP kz_7_2 hP
      have hD : va_D A [(o, .inr (5, [.int (nI mp), .int (nI ml), .int mv, .long md, .long mo, .ref y0, .ref y1, .ref y2, .ref y3, .ref y4])), (y0, .inl (cI, ld, .inl (upd f0 at9 b9))), (y1, .inl (cI, ld, .inl (upd f1 at9 e9))), (y2, .inl (cI, ld, .inl f2)), (y3, .inl (cI, ld, .inl f3)), (y4, .inl (cI, ld, .inl f4)), (f, .inr (3, [.int fb, .int (nI fc), .long fo]))] := kx_cD kz_7_2 hD
      refine lv_aload_n hx hb dd_Md_put_28 rfl (lv_at hl 0 rfl) ?_
      refine va_get (D := D) (ci := 5) (v := .ref y2) (C := rr_Md) (T := tt_Md) (N := 10) hx hb hts hin5 hown hK hP 0 kg_7_0 rfl 7 (by decide) lk3 (fun _ h9 => h9) rfl dd_Md_put_29 ?_
      refine lv_iload_n hx hb dd_Md_put_32 rfl (lv_at hl 1 rfl) ?_
      refine lv_aload hx hb dd_Md_put_33 (lv_at hl 4 rfl) ?_
      refine va_get (D := D) (ci := 3) (v := .int fb) (C := rr_Ft) (T := tt_Ft) (N := 3) hx hb hts hin3 hown hK hP 6 kg_7_6 rfl 0 (by decide) lk4 (fun _ h9 => h9) rfl dd_Md_put_35 ?_
      refine kx_iast (q0 := 3) (t0 := 0) hx hb dd_Md_put_38 hK hP hD hS kg_7_3 rfl (by omega) (by omega) (fun H locs hP hD hS => ?_)
      have hP : va_P D vwCl [(o, .inr (5, [.int (nI mp), .int (nI ml), .int mv, .long md, .long mo, .ref y0, .ref y1, .ref y2, .ref y3, .ref y4])), (y0, .inl (cI, ld, .inl (upd f0 at9 b9))), (y1, .inl (cI, ld, .inl (upd f1 at9 e9))), (y2, .inl (cI, ld, .inl (upd f2 at9 fb))), (y3, .inl (cI, ld, .inl f3)), (y4, .inl (cI, ld, .inl f4)), (f, .inr (3, [.int fb, .int (nI fc), .long fo]))] H := kx_cP kz_7_3 hP
      have hD : va_D A [(o, .inr (5, [.int (nI mp), .int (nI ml), .int mv, .long md, .long mo, .ref y0, .ref y1, .ref y2, .ref y3, .ref y4])), (y0, .inl (cI, ld, .inl (upd f0 at9 b9))), (y1, .inl (cI, ld, .inl (upd f1 at9 e9))), (y2, .inl (cI, ld, .inl (upd f2 at9 fb))), (y3, .inl (cI, ld, .inl f3)), (y4, .inl (cI, ld, .inl f4)), (f, .inr (3, [.int fb, .int (nI fc), .long fo]))] := kx_cD kz_7_3 hD
      refine lv_aload_n hx hb dd_Md_put_39 rfl (lv_at hl 0 rfl) ?_
      refine va_get (D := D) (ci := 5) (v := .ref y3) (C := rr_Md) (T := tt_Md) (N := 10) hx hb hts hin5 hown hK hP 0 kg_7_0 rfl 8 (by decide) lk6 (fun _ h9 => h9) rfl dd_Md_put_40 ?_
      refine lv_iload_n hx hb dd_Md_put_43 rfl (lv_at hl 1 rfl) ?_
      refine lv_aload hx hb dd_Md_put_44 (lv_at hl 4 rfl) ?_
      refine va_get (D := D) (ci := 3) (v := .int (nI fc)) (C := rr_Ft) (T := tt_Ft) (N := 3) hx hb hts hin3 hown hK hP 6 kg_7_6 rfl 1 (by decide) lk7 (fun _ h9 => h9) rfl dd_Md_put_46 ?_
      refine kx_iast (q0 := 4) (t0 := 0) hx hb dd_Md_put_49 hK hP hD hS kg_7_4 rfl (by omega) (by omega) (fun H locs hP hD hS => ?_)
      have hP : va_P D vwCl [(o, .inr (5, [.int (nI mp), .int (nI ml), .int mv, .long md, .long mo, .ref y0, .ref y1, .ref y2, .ref y3, .ref y4])), (y0, .inl (cI, ld, .inl (upd f0 at9 b9))), (y1, .inl (cI, ld, .inl (upd f1 at9 e9))), (y2, .inl (cI, ld, .inl (upd f2 at9 fb))), (y3, .inl (cI, ld, .inl (upd f3 at9 (nI fc)))), (y4, .inl (cI, ld, .inl f4)), (f, .inr (3, [.int fb, .int (nI fc), .long fo]))] H := kx_cP kz_7_4 hP
      have hD : va_D A [(o, .inr (5, [.int (nI mp), .int (nI ml), .int mv, .long md, .long mo, .ref y0, .ref y1, .ref y2, .ref y3, .ref y4])), (y0, .inl (cI, ld, .inl (upd f0 at9 b9))), (y1, .inl (cI, ld, .inl (upd f1 at9 e9))), (y2, .inl (cI, ld, .inl (upd f2 at9 fb))), (y3, .inl (cI, ld, .inl (upd f3 at9 (nI fc)))), (y4, .inl (cI, ld, .inl f4)), (f, .inr (3, [.int fb, .int (nI fc), .long fo]))] := kx_cD kz_7_4 hD
      refine lv_aload_n hx hb dd_Md_put_50 rfl (lv_at hl 0 rfl) ?_
      refine va_get (D := D) (ci := 5) (v := .ref y4) (C := rr_Md) (T := tt_Md) (N := 10) hx hb hts hin5 hown hK hP 0 kg_7_0 rfl 9 (by decide) lk8 (fun _ h9 => h9) rfl dd_Md_put_51 ?_
      refine lv_iload_n hx hb dd_Md_put_54 rfl (lv_at hl 1 rfl) ?_
      refine lv_ldc2 (v := (2147483647)) hx hb hown lk9 dd_Md_put_55 ?_
      refine lv_aload hx hb dd_Md_put_58 (lv_at hl 4 rfl) ?_
      refine va_get (D := D) (ci := 3) (v := .long fo) (C := rr_Ft) (T := tt_Ft) (N := 3) hx hb hts hin3 hown hK hP 6 kg_7_6 rfl 2 (by decide) lk10 (fun _ h9 => h9) rfl dd_Md_put_60 ?_
      refine va_mmin_long hx hb (by rw [hml]; exact hl.1.symm) hown (hts _ (kx_m kw_763)) (hts _ (kx_m kw_764)) (hts _ (kx_m kw_54)) (hts _ (kx_m kw_765)) (Nat.le_of_ble_eq_true rfl) (Nat.le_of_ble_eq_true rfl) (Nat.zero_le _) (Nat.zero_le _) dd_Md_put_63 ?_
      refine lv_l2i hx hb dd_Md_put_66 rfl ?_
      refine kx_iast (q0 := 5) (t0 := 0) hx hb dd_Md_put_67 hK hP hD hS kg_7_5 rfl (by omega) (by omega) (fun H locs hP hD hS => ?_)
      have hP : va_P D vwCl [(o, .inr (5, [.int (nI mp), .int (nI ml), .int mv, .long md, .long mo, .ref y0, .ref y1, .ref y2, .ref y3, .ref y4])), (y0, .inl (cI, ld, .inl (upd f0 at9 b9))), (y1, .inl (cI, ld, .inl (upd f1 at9 e9))), (y2, .inl (cI, ld, .inl (upd f2 at9 fb))), (y3, .inl (cI, ld, .inl (upd f3 at9 (nI fc)))), (y4, .inl (cI, ld, .inl (upd f4 at9 ((if fo < (2147483647 : Int64) then fo else (2147483647 : Int64)).toInt32)))), (f, .inr (3, [.int fb, .int (nI fc), .long fo]))] H := kx_cP kz_7_5 hP
      have hD : va_D A [(o, .inr (5, [.int (nI mp), .int (nI ml), .int mv, .long md, .long mo, .ref y0, .ref y1, .ref y2, .ref y3, .ref y4])), (y0, .inl (cI, ld, .inl (upd f0 at9 b9))), (y1, .inl (cI, ld, .inl (upd f1 at9 e9))), (y2, .inl (cI, ld, .inl (upd f2 at9 fb))), (y3, .inl (cI, ld, .inl (upd f3 at9 (nI fc)))), (y4, .inl (cI, ld, .inl (upd f4 at9 ((if fo < (2147483647 : Int64) then fo else (2147483647 : Int64)).toInt32)))), (f, .inr (3, [.int fb, .int (nI fc), .long fo]))] := kx_cD kz_7_5 hD
      refine lv_aload_n hx hb dd_Md_put_68 rfl (lv_at hl 0 rfl) ?_
      refine lv_dup hx hb dd_Md_put_69 rfl ?_
      refine va_get (D := D) (ci := 5) (v := .long mo) (C := rr_Md) (T := tt_Md) (N := 10) hx hb hts hin5 hown hK hP 0 kg_7_0 rfl 4 (by decide) lk11 (fun _ h9 => h9) rfl dd_Md_put_70 ?_
      refine lv_aload hx hb dd_Md_put_73 (lv_at hl 4 rfl) ?_
      refine va_get (D := D) (ci := 3) (v := .long fo) (C := rr_Ft) (T := tt_Ft) (N := 3) hx hb hts hin3 hown hK hP 6 kg_7_6 rfl 2 (by decide) lk10 (fun _ h9 => h9) rfl dd_Md_put_75 ?_
      refine lv_ladd hx hb dd_Md_put_78 ?_
      refine va_put (D := D) (ci := 5) (v := .long (mo + fo)) (ty := .long) (C := rr_Md) (T := tt_Md) (N := 10) hx hb hts hin5 ft_Md ft_Md_ok nn_Md hown hK hP hD hS 0 kg_7_0 rfl 4 (by decide) lk11 (fun _ h9 => h9) rfl (by decide +kernel) rfl rfl (Nat.le_of_ble_eq_true rfl) dd_Md_put_79 (fun H locs hP hD hS => ?_)
      have hP : va_P D vwCl [(o, .inr (5, [.int (nI mp), .int (nI ml), .int mv, .long md, .long (mo + fo), .ref y0, .ref y1, .ref y2, .ref y3, .ref y4])), (y0, .inl (cI, ld, .inl (upd f0 at9 b9))), (y1, .inl (cI, ld, .inl (upd f1 at9 e9))), (y2, .inl (cI, ld, .inl (upd f2 at9 fb))), (y3, .inl (cI, ld, .inl (upd f3 at9 (nI fc)))), (y4, .inl (cI, ld, .inl (upd f4 at9 ((if fo < (2147483647 : Int64) then fo else (2147483647 : Int64)).toInt32)))), (f, .inr (3, [.int fb, .int (nI fc), .long fo]))] H := kx_cP kz_7_0 hP
      have hD : va_D A [(o, .inr (5, [.int (nI mp), .int (nI ml), .int mv, .long md, .long (mo + fo), .ref y0, .ref y1, .ref y2, .ref y3, .ref y4])), (y0, .inl (cI, ld, .inl (upd f0 at9 b9))), (y1, .inl (cI, ld, .inl (upd f1 at9 e9))), (y2, .inl (cI, ld, .inl (upd f2 at9 fb))), (y3, .inl (cI, ld, .inl (upd f3 at9 (nI fc)))), (y4, .inl (cI, ld, .inl (upd f4 at9 ((if fo < (2147483647 : Int64) then fo else (2147483647 : Int64)).toInt32)))), (f, .inr (3, [.int fb, .int (nI fc), .long fo]))] := kx_cD kz_7_0 hD
      rw [hQ]
      exact kx_vret hx hb hr hlocks hK hN hS dd_Md_put_82 () hP hD trivial
    · skip
      have c10 : ¬ (at9 < ld) := fun h => c10 ((nI_ltI (by omega) (by omega)).mpr h)
      exact absurd hat (by omega)

theorem dd_Md_start_0 : decode bb_Md_start 0 = .ok (.iload_n 2, 1) := by decide +kernel
theorem dd_Md_start_1 : decode bb_Md_start 1 = .ok (.aload_n 0, 1) := by decide +kernel
theorem dd_Md_start_2 : decode bb_Md_start 2 = .ok (.getfield 15, 3) := by decide +kernel
theorem dd_Md_start_5 : decode bb_Md_start 5 = .ok (.arraylength, 1) := by decide +kernel
theorem dd_Md_start_6 : decode bb_Md_start 6 = .ok (.if_icmp .le (19), 3) := by decide +kernel
theorem dd_Md_start_9 : decode bb_Md_start 9 = .ok (.aload_n 0, 1) := by decide +kernel
theorem dd_Md_start_10 : decode bb_Md_start 10 = .ok (.aload_n 0, 1) := by decide +kernel
theorem dd_Md_start_11 : decode bb_Md_start 11 = .ok (.getfield 15, 3) := by decide +kernel
theorem dd_Md_start_14 : decode bb_Md_start 14 = .ok (.arraylength, 1) := by decide +kernel
theorem dd_Md_start_15 : decode bb_Md_start 15 = .ok (.iload_n 2, 1) := by decide +kernel
theorem dd_Md_start_16 : decode bb_Md_start 16 = .ok (.sipush (400), 3) := by decide +kernel
theorem dd_Md_start_19 : decode bb_Md_start 19 = .ok (.invokestatic 31, 3) := by decide +kernel
theorem dd_Md_start_22 : decode bb_Md_start 22 = .ok (.invokevirtual 9, 3) := by decide +kernel
theorem dd_Md_start_25 : decode bb_Md_start 25 = .ok (.aload_n 0, 1) := by decide +kernel
theorem dd_Md_start_26 : decode bb_Md_start 26 = .ok (.iload_n 1, 1) := by decide +kernel
theorem dd_Md_start_27 : decode bb_Md_start 27 = .ok (.putfield 35, 3) := by decide +kernel
theorem dd_Md_start_30 : decode bb_Md_start 30 = .ok (.aload_n 0, 1) := by decide +kernel
theorem dd_Md_start_31 : decode bb_Md_start 31 = .ok (.iload_n 2, 1) := by decide +kernel
theorem dd_Md_start_32 : decode bb_Md_start 32 = .ok (.putfield 39, 3) := by decide +kernel
theorem dd_Md_start_35 : decode bb_Md_start 35 = .ok (.aload_n 0, 1) := by decide +kernel
theorem dd_Md_start_36 : decode bb_Md_start 36 = .ok (.iconst 0, 1) := by decide +kernel
theorem dd_Md_start_37 : decode bb_Md_start 37 = .ok (.putfield 42, 3) := by decide +kernel
theorem dd_Md_start_40 : decode bb_Md_start 40 = .ok (.aload_n 0, 1) := by decide +kernel
theorem dd_Md_start_41 : decode bb_Md_start 41 = .ok (.lconst 0, 1) := by decide +kernel
theorem dd_Md_start_42 : decode bb_Md_start 42 = .ok (.putfield 45, 3) := by decide +kernel
theorem dd_Md_start_45 : decode bb_Md_start 45 = .ok (.aload_n 0, 1) := by decide +kernel
theorem dd_Md_start_46 : decode bb_Md_start 46 = .ok (.lconst 0, 1) := by decide +kernel
theorem dd_Md_start_47 : decode bb_Md_start 47 = .ok (.putfield 49, 3) := by decide +kernel
theorem dd_Md_start_50 : decode bb_Md_start 50 = .ok (.return_, 1) := by decide +kernel

set_option maxHeartbeats 4000000 in
set_option maxRecDepth 100000 in
theorem ct_Md_start (l : Launch) (D : va_G) (cI cJ cZ : ClassId) (sz : Nat) (o : Nat) (mp : Nat) (ml : Nat) (mv : Int32) (md : Int64) (mo : Int64) (y0 : Nat) (y1 : Nat) (y2 : Nat) (y3 : Nat) (y4 : Nat) (ld : Nat) (f0 : Nat → Int32) (f1 : Nat → Int32) (f2 : Nat → Int32) (f3 : Nat → Int32) (f4 : Nat → Int32) (p9 : Nat) (c9 : Nat) (hld : ld < 2 ^ 18) (hc9 : c9 < 2 ^ 18) : kx_Mv l yy_Md_start ww_Md_start ({ frames := 2, cells := kg_c ld c9 5, slots := kg_s ld c9 400 5, locals := 43 }) D vwCl (kx_ty cI cJ cZ) [.ref o, .int (nI p9), .int (nI c9)] [(o, .inr (5, [.int (nI mp), .int (nI ml), .int mv, .long md, .long mo, .ref y0, .ref y1, .ref y2, .ref y3, .ref y4])), (y0, .inl (cI, ld, .inl f0)), (y1, .inl (cI, ld, .inl f1)), (y2, .inl (cI, ld, .inl f2)), (y3, .inl (cI, ld, .inl f3)), (y4, .inl (cI, ld, .inl f4))] sz (fun (u : Nat × Nat × Nat × Nat × Nat × Nat × (Nat → Int32) × (Nat → Int32) × (Nat → Int32) × (Nat → Int32) × (Nat → Int32)) => u.2.2.2.2.2.1 = kg_n ld c9 400) (fun (u : Nat × Nat × Nat × Nat × Nat × Nat × (Nat → Int32) × (Nat → Int32) × (Nat → Int32) × (Nat → Int32) × (Nat → Int32)) => [(o, .inr (5, [.int (nI p9), .int (nI c9), .int (nI 0), .long (0 : Int64), .long (0 : Int64), .ref u.1, .ref u.2.1, .ref u.2.2.1, .ref u.2.2.2.1, .ref u.2.2.2.2.1])), (u.1, .inl (cI, u.2.2.2.2.2.1, .inl u.2.2.2.2.2.2.1)), (u.2.1, .inl (cI, u.2.2.2.2.2.1, .inl u.2.2.2.2.2.2.2.1)), (u.2.2.1, .inl (cI, u.2.2.2.2.2.1, .inl u.2.2.2.2.2.2.2.2.1)), (u.2.2.2.1, .inl (cI, u.2.2.2.2.2.1, .inl u.2.2.2.2.2.2.2.2.2.1)), (u.2.2.2.2.1, .inl (cI, u.2.2.2.2.2.1, .inl u.2.2.2.2.2.2.2.2.2.2))]) (kg_c ld c9 5) (kg_s ld c9 400 5) := by
  refine kx_startv (by decide) rfl (Nat.le_of_ble_eq_true rfl) ?_
  intro p e s m below meth c A ls hx hb hr hml hts hown hlocks hin hP hK hN hD hA hS hl
  have hl : lv_has ls 3 [(0, .ref o), (1, .int (nI p9)), (2, .int (nI c9))] := hl
  have hown : s.vm.findClass rr_Md = some m.cls := hown
  have lk0 := hts _ (kx_m kw_355)
  have hin5 : ∀ w ∈ u_ws rr_Md tt_Md 10, w ∈ ww_Md_start := fun w h => kx_m (kf_Md w h)
  have lk2 := hts _ (kx_m kw_343)
  have lk3 := hts _ (kx_m kw_345)
  have lk4 := hts _ (kx_m kw_347)
  have lk5 := hts _ (kx_m kw_350)
  have lk6 := hts _ (kx_m kw_353)
  obtain ⟨H, hH⟩ : ∃ H, H = s.heap := ⟨_, rfl⟩
  obtain ⟨locs, hlocs⟩ : ∃ z : List Loc, z = [] := ⟨_, rfl⟩
  have hP : va_P D vwCl [(o, .inr (5, [.int (nI mp), .int (nI ml), .int mv, .long md, .long mo, .ref y0, .ref y1, .ref y2, .ref y3, .ref y4])), (y0, .inl (cI, ld, .inl f0)), (y1, .inl (cI, ld, .inl f1)), (y2, .inl (cI, ld, .inl f2)), (y3, .inl (cI, ld, .inl f3)), (y4, .inl (cI, ld, .inl f4))] H := by rw [hH]; exact hP
  have hS : va_S A s.heap H locs := by rw [hH, hlocs]; exact hS
  refine kx_gen hH hlocs ?_
  clear hH hlocs
  refine kx_nameQ (fun Q hQ => ?_)
  refine lv_iload_n hx hb dd_Md_start_0 rfl (lv_at hl 2 rfl) ?_
  refine lv_aload_n hx hb dd_Md_start_1 rfl (lv_at hl 0 rfl) ?_
  refine va_get (D := D) (ci := 5) (v := .ref y0) (C := rr_Md) (T := tt_Md) (N := 10) hx hb hts hin5 hown hK hP 0 kg_6_0 rfl 5 (by decide) lk0 (fun _ h9 => h9) rfl dd_Md_start_2 ?_
  refine va_alen hx hb hK hP 1 0 kg_6_1 rfl (v := nI ld) rfl dd_Md_start_5 ?_
  have K25 : ∀ (p0 : Nat) (p1 : Nat) (p2 : Nat) (p3 : Nat) (p4 : Nat) (lq : Nat) (u0 : Nat → Int32) (u1 : Nat → Int32) (u2 : Nat → Int32) (u3 : Nat → Int32) (u4 : Nat → Int32), (lq = kg_n ld c9 400) → ∀ (H : Heap) (locs : List Loc), va_P D vwCl [(o, .inr (5, [.int (nI mp), .int (nI ml), .int mv, .long md, .long mo, .ref p0, .ref p1, .ref p2, .ref p3, .ref p4])), (p0, .inl (cI, lq, .inl u0)), (p1, .inl (cI, lq, .inl u1)), (p2, .inl (cI, lq, .inl u2)), (p3, .inl (cI, lq, .inl u3)), (p4, .inl (cI, lq, .inl u4))] H → va_D A [(o, .inr (5, [.int (nI mp), .int (nI ml), .int mv, .long md, .long mo, .ref p0, .ref p1, .ref p2, .ref p3, .ref p4])), (p0, .inl (cI, lq, .inl u0)), (p1, .inl (cI, lq, .inl u1)), (p2, .inl (cI, lq, .inl u2)), (p3, .inl (cI, lq, .inl u3)), (p4, .inl (cI, lq, .inl u4))] → va_S A s.heap H locs → ∀ (ls : Array Slot), lv_has ls 3 [(0, .ref o), (1, .int (nI p9)), (2, .int (nI c9))] → W p l e (headSpec ww_Md_start { frames := 2, cells := kg_c ld c9 5, slots := kg_s ld c9 400 5, locals := 43 }).room s m ([.ref o, .int (nI p9), .int (nI c9)] : List Value).toArray below meth c H locs (kg_c ld c9 5) (kg_s ld c9 400 5) Q (F0 m 25 ls []) := by
    clear hP hD hS hl
    intro p0 p1 p2 p3 p4 lq u0 u1 u2 u3 u4 hlq H locs hP hD hS ls hl
    refine lv_aload_n hx hb dd_Md_start_25 rfl (lv_at hl 0 rfl) ?_
    refine lv_iload_n hx hb dd_Md_start_26 rfl (lv_at hl 1 rfl) ?_
    refine va_put (D := D) (ci := 5) (v := .int (nI p9)) (ty := .int) (C := rr_Md) (T := tt_Md) (N := 10) hx hb hts hin5 ft_Md ft_Md_ok nn_Md hown hK hP hD hS 0 kg_6_0 rfl 0 (by decide) lk2 (fun _ h9 => h9) rfl (by decide +kernel) rfl rfl (Nat.le_of_ble_eq_true rfl) dd_Md_start_27 (fun H locs hP hD hS => ?_)
    have hP : va_P D vwCl [(o, .inr (5, [.int (nI p9), .int (nI ml), .int mv, .long md, .long mo, .ref p0, .ref p1, .ref p2, .ref p3, .ref p4])), (p0, .inl (cI, lq, .inl u0)), (p1, .inl (cI, lq, .inl u1)), (p2, .inl (cI, lq, .inl u2)), (p3, .inl (cI, lq, .inl u3)), (p4, .inl (cI, lq, .inl u4))] H := kx_cP kz_6_0 hP
    have hD : va_D A [(o, .inr (5, [.int (nI p9), .int (nI ml), .int mv, .long md, .long mo, .ref p0, .ref p1, .ref p2, .ref p3, .ref p4])), (p0, .inl (cI, lq, .inl u0)), (p1, .inl (cI, lq, .inl u1)), (p2, .inl (cI, lq, .inl u2)), (p3, .inl (cI, lq, .inl u3)), (p4, .inl (cI, lq, .inl u4))] := kx_cD kz_6_0 hD
    refine lv_aload_n hx hb dd_Md_start_30 rfl (lv_at hl 0 rfl) ?_
    refine lv_iload_n hx hb dd_Md_start_31 rfl (lv_at hl 2 rfl) ?_
    refine va_put (D := D) (ci := 5) (v := .int (nI c9)) (ty := .int) (C := rr_Md) (T := tt_Md) (N := 10) hx hb hts hin5 ft_Md ft_Md_ok nn_Md hown hK hP hD hS 0 kg_6_0 rfl 1 (by decide) lk3 (fun _ h9 => h9) rfl (by decide +kernel) rfl rfl (Nat.le_of_ble_eq_true rfl) dd_Md_start_32 (fun H locs hP hD hS => ?_)
    have hP : va_P D vwCl [(o, .inr (5, [.int (nI p9), .int (nI c9), .int mv, .long md, .long mo, .ref p0, .ref p1, .ref p2, .ref p3, .ref p4])), (p0, .inl (cI, lq, .inl u0)), (p1, .inl (cI, lq, .inl u1)), (p2, .inl (cI, lq, .inl u2)), (p3, .inl (cI, lq, .inl u3)), (p4, .inl (cI, lq, .inl u4))] H := kx_cP kz_6_0 hP
    have hD : va_D A [(o, .inr (5, [.int (nI p9), .int (nI c9), .int mv, .long md, .long mo, .ref p0, .ref p1, .ref p2, .ref p3, .ref p4])), (p0, .inl (cI, lq, .inl u0)), (p1, .inl (cI, lq, .inl u1)), (p2, .inl (cI, lq, .inl u2)), (p3, .inl (cI, lq, .inl u3)), (p4, .inl (cI, lq, .inl u4))] := kx_cD kz_6_0 hD
    refine lv_aload_n hx hb dd_Md_start_35 rfl (lv_at hl 0 rfl) ?_
    refine lv_iconst (v := nI 0) hx hb dd_Md_start_36 (by decide) ?_
    refine va_put (D := D) (ci := 5) (v := .int (nI 0)) (ty := .int) (C := rr_Md) (T := tt_Md) (N := 10) hx hb hts hin5 ft_Md ft_Md_ok nn_Md hown hK hP hD hS 0 kg_6_0 rfl 2 (by decide) lk4 (fun _ h9 => h9) rfl (by decide +kernel) rfl rfl (Nat.le_of_ble_eq_true rfl) dd_Md_start_37 (fun H locs hP hD hS => ?_)
    have hP : va_P D vwCl [(o, .inr (5, [.int (nI p9), .int (nI c9), .int (nI 0), .long md, .long mo, .ref p0, .ref p1, .ref p2, .ref p3, .ref p4])), (p0, .inl (cI, lq, .inl u0)), (p1, .inl (cI, lq, .inl u1)), (p2, .inl (cI, lq, .inl u2)), (p3, .inl (cI, lq, .inl u3)), (p4, .inl (cI, lq, .inl u4))] H := kx_cP kz_6_0 hP
    have hD : va_D A [(o, .inr (5, [.int (nI p9), .int (nI c9), .int (nI 0), .long md, .long mo, .ref p0, .ref p1, .ref p2, .ref p3, .ref p4])), (p0, .inl (cI, lq, .inl u0)), (p1, .inl (cI, lq, .inl u1)), (p2, .inl (cI, lq, .inl u2)), (p3, .inl (cI, lq, .inl u3)), (p4, .inl (cI, lq, .inl u4))] := kx_cD kz_6_0 hD
    refine lv_aload_n hx hb dd_Md_start_40 rfl (lv_at hl 0 rfl) ?_
    refine lv_lconst (v := 0) hx hb dd_Md_start_41 (by decide) ?_
    refine va_put (D := D) (ci := 5) (v := .long (0 : Int64)) (ty := .long) (C := rr_Md) (T := tt_Md) (N := 10) hx hb hts hin5 ft_Md ft_Md_ok nn_Md hown hK hP hD hS 0 kg_6_0 rfl 3 (by decide) lk5 (fun _ h9 => h9) rfl (by decide +kernel) rfl rfl (Nat.le_of_ble_eq_true rfl) dd_Md_start_42 (fun H locs hP hD hS => ?_)
    have hP : va_P D vwCl [(o, .inr (5, [.int (nI p9), .int (nI c9), .int (nI 0), .long (0 : Int64), .long mo, .ref p0, .ref p1, .ref p2, .ref p3, .ref p4])), (p0, .inl (cI, lq, .inl u0)), (p1, .inl (cI, lq, .inl u1)), (p2, .inl (cI, lq, .inl u2)), (p3, .inl (cI, lq, .inl u3)), (p4, .inl (cI, lq, .inl u4))] H := kx_cP kz_6_0 hP
    have hD : va_D A [(o, .inr (5, [.int (nI p9), .int (nI c9), .int (nI 0), .long (0 : Int64), .long mo, .ref p0, .ref p1, .ref p2, .ref p3, .ref p4])), (p0, .inl (cI, lq, .inl u0)), (p1, .inl (cI, lq, .inl u1)), (p2, .inl (cI, lq, .inl u2)), (p3, .inl (cI, lq, .inl u3)), (p4, .inl (cI, lq, .inl u4))] := kx_cD kz_6_0 hD
    refine lv_aload_n hx hb dd_Md_start_45 rfl (lv_at hl 0 rfl) ?_
    refine lv_lconst (v := 0) hx hb dd_Md_start_46 (by decide) ?_
    refine va_put (D := D) (ci := 5) (v := .long (0 : Int64)) (ty := .long) (C := rr_Md) (T := tt_Md) (N := 10) hx hb hts hin5 ft_Md ft_Md_ok nn_Md hown hK hP hD hS 0 kg_6_0 rfl 4 (by decide) lk6 (fun _ h9 => h9) rfl (by decide +kernel) rfl rfl (Nat.le_of_ble_eq_true rfl) dd_Md_start_47 (fun H locs hP hD hS => ?_)
    have hP : va_P D vwCl [(o, .inr (5, [.int (nI p9), .int (nI c9), .int (nI 0), .long (0 : Int64), .long (0 : Int64), .ref p0, .ref p1, .ref p2, .ref p3, .ref p4])), (p0, .inl (cI, lq, .inl u0)), (p1, .inl (cI, lq, .inl u1)), (p2, .inl (cI, lq, .inl u2)), (p3, .inl (cI, lq, .inl u3)), (p4, .inl (cI, lq, .inl u4))] H := kx_cP kz_6_0 hP
    have hD : va_D A [(o, .inr (5, [.int (nI p9), .int (nI c9), .int (nI 0), .long (0 : Int64), .long (0 : Int64), .ref p0, .ref p1, .ref p2, .ref p3, .ref p4])), (p0, .inl (cI, lq, .inl u0)), (p1, .inl (cI, lq, .inl u1)), (p2, .inl (cI, lq, .inl u2)), (p3, .inl (cI, lq, .inl u3)), (p4, .inl (cI, lq, .inl u4))] := kx_cD kz_6_0 hD
    rw [hQ]
    refine kx_widen (k := kg_c ld c9 5) (n := kg_s ld c9 400 5) (Nat.le_refl _) (Nat.le_refl _) ?_
    exact kx_vret hx hb hr hlocks hK hN hS dd_Md_start_50 (p0, p1, p2, p3, p4, lq, u0, u1, u2, u3, u4) hP hD hlq
  refine lv_icmp_le (tgt := 25) hx hb dd_Md_start_6 (by decide) (fun c6 => ?_) (fun c6 => ?_)
  · skip
    have c6 : c9 ≤ ld := (nI_leI (by omega) (by omega)).mp c6
    refine kx_widen (k := kg_c ld c9 5) (n := kg_s ld c9 400 5) (by unfold kg_c; (first | rw [if_pos c6] | rw [if_neg c6]) <;> omega) (by unfold kg_s; (first | rw [if_pos c6] | rw [if_neg c6]) <;> omega) ?_
    exact K25 y0 y1 y2 y3 y4 ld f0 f1 f2 f3 f4 (by unfold kg_n; first | rw [if_pos c6] | rw [if_neg c6]) H locs hP hD hS ls (lv_sub hl [0, 1, 2] rfl)
  · skip
    have c6 : ¬ (c9 ≤ ld) := fun h => c6 ((nI_leI (by omega) (by omega)).mpr h)
    refine lv_aload_n hx hb dd_Md_start_9 rfl (lv_at hl 0 rfl) ?_
    refine lv_aload_n hx hb dd_Md_start_10 rfl (lv_at hl 0 rfl) ?_
    refine va_get (D := D) (ci := 5) (v := .ref y0) (C := rr_Md) (T := tt_Md) (N := 10) hx hb hts hin5 hown hK hP 0 kg_6_0 rfl 5 (by decide) lk0 (fun _ h9 => h9) rfl dd_Md_start_11 ?_
    refine va_alen hx hb hK hP 1 0 kg_6_1 rfl (v := nI ld) rfl dd_Md_start_14 ?_
    refine lv_iload_n hx hb dd_Md_start_15 rfl (lv_at hl 2 rfl) ?_
    refine lv_sipush (v := nI 400) hx hb dd_Md_start_16 (by decide) ?_
    refine kx_calli (wr := [(o, .inr (5, [.int (nI mp), .int (nI ml), .int mv, .long md, .long mo, .ref y0, .ref y1, .ref y2, .ref y3, .ref y4])), (y0, .inl (cI, ld, .inl f0)), (y1, .inl (cI, ld, .inl f1)), (y2, .inl (cI, ld, .inl f2)), (y3, .inl (cI, ld, .inl f3)), (y4, .inl (cI, ld, .inl f4))]) (va_runSN (As := [.int (nI ld), .int (nI c9), .int (nI 400)]) (rest := [.ref o]) ⟨hx, hb, hml, hown, hts⟩ (ct_K_grown l D cI cJ cZ H.size ld c9 400 (by omega) (by omega) (by omega)) ⟨(va_cnB 3 hts (kx_good kw_419) rfl rfl rfl (kx_n756 hN) (hts _ (kx_m kw_44)) (by decide +kernel) ⟨Nat.le_of_ble_eq_true rfl, Nat.le_of_ble_eq_true rfl⟩), (hts _ (kx_m kw_418)), trivial⟩ (kx_preS hK hN (hP.sub [] kt_6_) (hD.sub [] (by decide) ks_6_)) rfl rfl hl.1 rfl (lv_room (Nat.le_of_ble_eq_true rfl)) dd_Md_start_19 ⟨(by show 0 + 0 ≤ (kg_c ld c9 5); omega), (by show 0 + 0 ≤ (kg_s ld c9 400 5); omega)⟩) hP hD hS hA [] [0, 1, 2, 3, 4, 5] ks_6_ ks_6_0_1_2_3_4_5 (by decide) (by decide) (fun r19 u19 H locs hw19 hP hD hS => ?_)
    refine kx_bud (cells := 0) (slots := 0) ?_ (by omega) (by omega)
    have hP : va_P D vwCl [(o, .inr (5, [.int (nI mp), .int (nI ml), .int mv, .long md, .long mo, .ref y0, .ref y1, .ref y2, .ref y3, .ref y4])), (y0, .inl (cI, ld, .inl f0)), (y1, .inl (cI, ld, .inl f1)), (y2, .inl (cI, ld, .inl f2)), (y3, .inl (cI, ld, .inl f3)), (y4, .inl (cI, ld, .inl f4))] H := hP
    have hD : va_D A [(o, .inr (5, [.int (nI mp), .int (nI ml), .int mv, .long md, .long mo, .ref y0, .ref y1, .ref y2, .ref y3, .ref y4])), (y0, .inl (cI, ld, .inl f0)), (y1, .inl (cI, ld, .inl f1)), (y2, .inl (cI, ld, .inl f2)), (y3, .inl (cI, ld, .inl f3)), (y4, .inl (cI, ld, .inl f4))] := hD
    have hw19 : r19 = nI (max c9 (min 400 (2 * ld))) := hw19
    subst hw19
    refine kx_callv (wr := [(y0, .inl (cI, ld, .inl f0)), (y1, .inl (cI, ld, .inl f1)), (y2, .inl (cI, ld, .inl f2)), (y3, .inl (cI, ld, .inl f3)), (y4, .inl (cI, ld, .inl f4))]) (va_runV (C := rr_Md) (As := [.int (nI (max c9 (min 400 (2 * ld))))]) (rest := []) ⟨hx, hb, hml, hown, hts⟩ (ct_Md_makeRows l D cI cJ cZ H.size o mp ml mv md mo (.ref y0 : Value) (.ref y1 : Value) (.ref y2 : Value) (.ref y3 : Value) (.ref y4 : Value) (max c9 (min 400 (2 * ld))) (by omega)) ⟨(callB_of 1 hts (kx_good kw_342) rfl rfl rfl (hts _ (kx_m kw_52)) (hts _ (kx_m kw_339)) (by decide +kernel) ⟨Nat.le_of_ble_eq_true rfl, Nat.le_of_ble_eq_true rfl⟩), (hts _ (kx_m kw_341)), (hts _ (kx_m kw_2))⟩ (kx_preV (ci := 5) (q0 := 0) hK hN (hP.sub [0] kt_6_0) (hD.sub [0] (by decide) ks_6_0) rfl kg_1_0) rfl rfl hl.1 rfl (lv_room (Nat.le_of_ble_eq_true rfl)) dd_Md_start_22 ⟨(by show 0 + 5 ≤ (kg_c ld c9 5); unfold kg_c; rw [if_neg c6]; omega), (by show 0 + (5 * (max c9 (min 400 (2 * ld)))) ≤ (kg_s ld c9 400 5); unfold kg_s; rw [if_neg c6]; omega)⟩) hP hD hS hA [0] [1, 2, 3, 4, 5] ks_6_0 ks_6_1_2_3_4_5 (by decide) (by decide) (fun u22 H locs hw22 hP hD hS => ?_)
    refine kx_bud (cells := 5) (slots := 5 * (max c9 (min 400 (2 * ld)))) ?_ (by omega) (by omega)
    obtain ⟨w0_22, w1_22, w2_22, w3_22, w4_22⟩ := u22
    have hP : va_P D vwCl [(y0, .inl (cI, ld, .inl f0)), (y1, .inl (cI, ld, .inl f1)), (y2, .inl (cI, ld, .inl f2)), (y3, .inl (cI, ld, .inl f3)), (y4, .inl (cI, ld, .inl f4)), (o, .inr (5, [.int (nI mp), .int (nI ml), .int mv, .long md, .long mo, .ref w0_22, .ref w1_22, .ref w2_22, .ref w3_22, .ref w4_22])), (w0_22, .inl (cI, (max c9 (min 400 (2 * ld))), .inl (fun _ => 0))), (w1_22, .inl (cI, (max c9 (min 400 (2 * ld))), .inl (fun _ => 0))), (w2_22, .inl (cI, (max c9 (min 400 (2 * ld))), .inl (fun _ => 0))), (w3_22, .inl (cI, (max c9 (min 400 (2 * ld))), .inl (fun _ => 0))), (w4_22, .inl (cI, (max c9 (min 400 (2 * ld))), .inl (fun _ => 0)))] H := hP
    have hD : va_D A [(y0, .inl (cI, ld, .inl f0)), (y1, .inl (cI, ld, .inl f1)), (y2, .inl (cI, ld, .inl f2)), (y3, .inl (cI, ld, .inl f3)), (y4, .inl (cI, ld, .inl f4)), (o, .inr (5, [.int (nI mp), .int (nI ml), .int mv, .long md, .long mo, .ref w0_22, .ref w1_22, .ref w2_22, .ref w3_22, .ref w4_22])), (w0_22, .inl (cI, (max c9 (min 400 (2 * ld))), .inl (fun _ => 0))), (w1_22, .inl (cI, (max c9 (min 400 (2 * ld))), .inl (fun _ => 0))), (w2_22, .inl (cI, (max c9 (min 400 (2 * ld))), .inl (fun _ => 0))), (w3_22, .inl (cI, (max c9 (min 400 (2 * ld))), .inl (fun _ => 0))), (w4_22, .inl (cI, (max c9 (min 400 (2 * ld))), .inl (fun _ => 0)))] := hD
    have hP : va_P D vwCl [(o, .inr (5, [.int (nI mp), .int (nI ml), .int mv, .long md, .long mo, .ref w0_22, .ref w1_22, .ref w2_22, .ref w3_22, .ref w4_22])), (y0, .inl (cI, ld, .inl f0)), (y1, .inl (cI, ld, .inl f1)), (y2, .inl (cI, ld, .inl f2)), (y3, .inl (cI, ld, .inl f3)), (y4, .inl (cI, ld, .inl f4)), (w0_22, .inl (cI, (max c9 (min 400 (2 * ld))), .inl (fun _ => 0))), (w1_22, .inl (cI, (max c9 (min 400 (2 * ld))), .inl (fun _ => 0))), (w2_22, .inl (cI, (max c9 (min 400 (2 * ld))), .inl (fun _ => 0))), (w3_22, .inl (cI, (max c9 (min 400 (2 * ld))), .inl (fun _ => 0))), (w4_22, .inl (cI, (max c9 (min 400 (2 * ld))), .inl (fun _ => 0)))] H := hP.sub [5, 0, 1, 2, 3, 4, 6, 7, 8, 9, 10] kt_11_5_0_1_2_3_4_6_7_8_9_10
    have hD : va_D A [(o, .inr (5, [.int (nI mp), .int (nI ml), .int mv, .long md, .long mo, .ref w0_22, .ref w1_22, .ref w2_22, .ref w3_22, .ref w4_22])), (y0, .inl (cI, ld, .inl f0)), (y1, .inl (cI, ld, .inl f1)), (y2, .inl (cI, ld, .inl f2)), (y3, .inl (cI, ld, .inl f3)), (y4, .inl (cI, ld, .inl f4)), (w0_22, .inl (cI, (max c9 (min 400 (2 * ld))), .inl (fun _ => 0))), (w1_22, .inl (cI, (max c9 (min 400 (2 * ld))), .inl (fun _ => 0))), (w2_22, .inl (cI, (max c9 (min 400 (2 * ld))), .inl (fun _ => 0))), (w3_22, .inl (cI, (max c9 (min 400 (2 * ld))), .inl (fun _ => 0))), (w4_22, .inl (cI, (max c9 (min 400 (2 * ld))), .inl (fun _ => 0)))] := hD.sub [5, 0, 1, 2, 3, 4, 6, 7, 8, 9, 10] (by decide) ks_11_5_0_1_2_3_4_6_7_8_9_10
    have hP : va_P D vwCl [(o, .inr (5, [.int (nI mp), .int (nI ml), .int mv, .long md, .long mo, .ref w0_22, .ref w1_22, .ref w2_22, .ref w3_22, .ref w4_22])), (w0_22, .inl (cI, (max c9 (min 400 (2 * ld))), .inl (fun _ => 0))), (w1_22, .inl (cI, (max c9 (min 400 (2 * ld))), .inl (fun _ => 0))), (w2_22, .inl (cI, (max c9 (min 400 (2 * ld))), .inl (fun _ => 0))), (w3_22, .inl (cI, (max c9 (min 400 (2 * ld))), .inl (fun _ => 0))), (w4_22, .inl (cI, (max c9 (min 400 (2 * ld))), .inl (fun _ => 0)))] H := hP.sub [0, 6, 7, 8, 9, 10] kt_11_0_6_7_8_9_10
    have hD : va_D A [(o, .inr (5, [.int (nI mp), .int (nI ml), .int mv, .long md, .long mo, .ref w0_22, .ref w1_22, .ref w2_22, .ref w3_22, .ref w4_22])), (w0_22, .inl (cI, (max c9 (min 400 (2 * ld))), .inl (fun _ => 0))), (w1_22, .inl (cI, (max c9 (min 400 (2 * ld))), .inl (fun _ => 0))), (w2_22, .inl (cI, (max c9 (min 400 (2 * ld))), .inl (fun _ => 0))), (w3_22, .inl (cI, (max c9 (min 400 (2 * ld))), .inl (fun _ => 0))), (w4_22, .inl (cI, (max c9 (min 400 (2 * ld))), .inl (fun _ => 0)))] := hD.sub [0, 6, 7, 8, 9, 10] (by decide) ks_11_0_6_7_8_9_10
    refine kx_widen (k := kg_c ld c9 5) (n := kg_s ld c9 400 5) (by unfold kg_c; (first | rw [if_pos c6] | rw [if_neg c6]) <;> omega) (by unfold kg_s; (first | rw [if_pos c6] | rw [if_neg c6]) <;> omega) ?_
    exact K25 w0_22 w1_22 w2_22 w3_22 w4_22 (max c9 (min 400 (2 * ld))) (fun _ => 0) (fun _ => 0) (fun _ => 0) (fun _ => 0) (fun _ => 0) (by unfold kg_n; first | rw [if_pos c6] | rw [if_neg c6]) H locs hP hD hS ls (lv_sub hl [0, 1, 2] rfl)
