theorem kg_16_0 {c0 c1 c2 c3 c4 c5 c6 c7 c8 c9 c10 c11 c12 c13 c14 c15 : Nat × va_E} : ([c0, c1, c2, c3, c4, c5, c6, c7, c8, c9, c10, c11, c12, c13, c14, c15] : va_W)[0]? = some c0 := rfl
theorem kg_16_11 {c0 c1 c2 c3 c4 c5 c6 c7 c8 c9 c10 c11 c12 c13 c14 c15 : Nat × va_E} : ([c0, c1, c2, c3, c4, c5, c6, c7, c8, c9, c10, c11, c12, c13, c14, c15] : va_W)[11]? = some c11 := rfl
theorem kt_16_6_7_10 {c0 c1 c2 c3 c4 c5 c6 c7 c8 c9 c10 c11 c12 c13 c14 c15 : Nat × va_E} : ([6, 7, 10] : List Nat).filterMap (fun i => ([c0, c1, c2, c3, c4, c5, c6, c7, c8, c9, c10, c11, c12, c13, c14, c15] : va_W)[i]?) = ([c6, c7, c10] : va_W) := rfl
theorem ks_16_6_7_10 {c0 c1 c2 c3 c4 c5 c6 c7 c8 c9 c10 c11 c12 c13 c14 c15 : Nat × va_E} : ([6, 7, 10] : List Nat).map (fun i => ([c0, c1, c2, c3, c4, c5, c6, c7, c8, c9, c10, c11, c12, c13, c14, c15] : va_W)[i]?) = ([c6, c7, c10] : va_W).map some := rfl
theorem ks_16_0_1_2_3_4_5_8_9_11_12_13_14_15 {c0 c1 c2 c3 c4 c5 c6 c7 c8 c9 c10 c11 c12 c13 c14 c15 : Nat × va_E} : ([0, 1, 2, 3, 4, 5, 8, 9, 11, 12, 13, 14, 15] : List Nat).map (fun i => ([c0, c1, c2, c3, c4, c5, c6, c7, c8, c9, c10, c11, c12, c13, c14, c15] : va_W)[i]?) = ([c0, c1, c2, c3, c4, c5, c8, c9, c11, c12, c13, c14, c15] : va_W).map some := rfl
theorem kt_16_0_1_2_3_4_5_13_14_6_7_15_8_9_10_11_12 {c0 c1 c2 c3 c4 c5 c6 c7 c8 c9 c10 c11 c12 c13 c14 c15 : Nat × va_E} : ([0, 1, 2, 3, 4, 5, 13, 14, 6, 7, 15, 8, 9, 10, 11, 12] : List Nat).filterMap (fun i => ([c0, c1, c2, c3, c4, c5, c6, c7, c8, c9, c10, c11, c12, c13, c14, c15] : va_W)[i]?) = ([c0, c1, c2, c3, c4, c5, c13, c14, c6, c7, c15, c8, c9, c10, c11, c12] : va_W) := rfl
theorem ks_16_0_1_2_3_4_5_13_14_6_7_15_8_9_10_11_12 {c0 c1 c2 c3 c4 c5 c6 c7 c8 c9 c10 c11 c12 c13 c14 c15 : Nat × va_E} : ([0, 1, 2, 3, 4, 5, 13, 14, 6, 7, 15, 8, 9, 10, 11, 12] : List Nat).map (fun i => ([c0, c1, c2, c3, c4, c5, c6, c7, c8, c9, c10, c11, c12, c13, c14, c15] : va_W)[i]?) = ([c0, c1, c2, c3, c4, c5, c13, c14, c6, c7, c15, c8, c9, c10, c11, c12] : va_W).map some := rfl
theorem kg_16_6 {c0 c1 c2 c3 c4 c5 c6 c7 c8 c9 c10 c11 c12 c13 c14 c15 : Nat × va_E} : ([c0, c1, c2, c3, c4, c5, c6, c7, c8, c9, c10, c11, c12, c13, c14, c15] : va_W)[6]? = some c6 := rfl
theorem kg_16_7 {c0 c1 c2 c3 c4 c5 c6 c7 c8 c9 c10 c11 c12 c13 c14 c15 : Nat × va_E} : ([c0, c1, c2, c3, c4, c5, c6, c7, c8, c9, c10, c11, c12, c13, c14, c15] : va_W)[7]? = some c7 := rfl
theorem kg_16_1 {c0 c1 c2 c3 c4 c5 c6 c7 c8 c9 c10 c11 c12 c13 c14 c15 : Nat × va_E} : ([c0, c1, c2, c3, c4, c5, c6, c7, c8, c9, c10, c11, c12, c13, c14, c15] : va_W)[1]? = some c1 := rfl
theorem kg_16_2 {c0 c1 c2 c3 c4 c5 c6 c7 c8 c9 c10 c11 c12 c13 c14 c15 : Nat × va_E} : ([c0, c1, c2, c3, c4, c5, c6, c7, c8, c9, c10, c11, c12, c13, c14, c15] : va_W)[2]? = some c2 := rfl
theorem kg_16_13 {c0 c1 c2 c3 c4 c5 c6 c7 c8 c9 c10 c11 c12 c13 c14 c15 : Nat × va_E} : ([c0, c1, c2, c3, c4, c5, c6, c7, c8, c9, c10, c11, c12, c13, c14, c15] : va_W)[13]? = some c13 := rfl
theorem kg_16_14 {c0 c1 c2 c3 c4 c5 c6 c7 c8 c9 c10 c11 c12 c13 c14 c15 : Nat × va_E} : ([c0, c1, c2, c3, c4, c5, c6, c7, c8, c9, c10, c11, c12, c13, c14, c15] : va_W)[14]? = some c14 := rfl
theorem kg_16_8 {c0 c1 c2 c3 c4 c5 c6 c7 c8 c9 c10 c11 c12 c13 c14 c15 : Nat × va_E} : ([c0, c1, c2, c3, c4, c5, c6, c7, c8, c9, c10, c11, c12, c13, c14, c15] : va_W)[8]? = some c8 := rfl
theorem kg_16_9 {c0 c1 c2 c3 c4 c5 c6 c7 c8 c9 c10 c11 c12 c13 c14 c15 : Nat × va_E} : ([c0, c1, c2, c3, c4, c5, c6, c7, c8, c9, c10, c11, c12, c13, c14, c15] : va_W)[9]? = some c9 := rfl
theorem kt_16_11_12 {c0 c1 c2 c3 c4 c5 c6 c7 c8 c9 c10 c11 c12 c13 c14 c15 : Nat × va_E} : ([11, 12] : List Nat).filterMap (fun i => ([c0, c1, c2, c3, c4, c5, c6, c7, c8, c9, c10, c11, c12, c13, c14, c15] : va_W)[i]?) = ([c11, c12] : va_W) := rfl
theorem ks_16_11_12 {c0 c1 c2 c3 c4 c5 c6 c7 c8 c9 c10 c11 c12 c13 c14 c15 : Nat × va_E} : ([11, 12] : List Nat).map (fun i => ([c0, c1, c2, c3, c4, c5, c6, c7, c8, c9, c10, c11, c12, c13, c14, c15] : va_W)[i]?) = ([c11, c12] : va_W).map some := rfl
theorem ks_16_0_1_2_3_4_5_6_7_8_9_10_13_14_15 {c0 c1 c2 c3 c4 c5 c6 c7 c8 c9 c10 c11 c12 c13 c14 c15 : Nat × va_E} : ([0, 1, 2, 3, 4, 5, 6, 7, 8, 9, 10, 13, 14, 15] : List Nat).map (fun i => ([c0, c1, c2, c3, c4, c5, c6, c7, c8, c9, c10, c11, c12, c13, c14, c15] : va_W)[i]?) = ([c0, c1, c2, c3, c4, c5, c6, c7, c8, c9, c10, c13, c14, c15] : va_W).map some := rfl
theorem kt_16_0_1_2_3_4_5_6_7_8_9_10_14_15_11_12_13 {c0 c1 c2 c3 c4 c5 c6 c7 c8 c9 c10 c11 c12 c13 c14 c15 : Nat × va_E} : ([0, 1, 2, 3, 4, 5, 6, 7, 8, 9, 10, 14, 15, 11, 12, 13] : List Nat).filterMap (fun i => ([c0, c1, c2, c3, c4, c5, c6, c7, c8, c9, c10, c11, c12, c13, c14, c15] : va_W)[i]?) = ([c0, c1, c2, c3, c4, c5, c6, c7, c8, c9, c10, c14, c15, c11, c12, c13] : va_W) := rfl
theorem ks_16_0_1_2_3_4_5_6_7_8_9_10_14_15_11_12_13 {c0 c1 c2 c3 c4 c5 c6 c7 c8 c9 c10 c11 c12 c13 c14 c15 : Nat × va_E} : ([0, 1, 2, 3, 4, 5, 6, 7, 8, 9, 10, 14, 15, 11, 12, 13] : List Nat).map (fun i => ([c0, c1, c2, c3, c4, c5, c6, c7, c8, c9, c10, c11, c12, c13, c14, c15] : va_W)[i]?) = ([c0, c1, c2, c3, c4, c5, c6, c7, c8, c9, c10, c14, c15, c11, c12, c13] : va_W).map some := rfl
theorem kg_16_4 {c0 c1 c2 c3 c4 c5 c6 c7 c8 c9 c10 c11 c12 c13 c14 c15 : Nat × va_E} : ([c0, c1, c2, c3, c4, c5, c6, c7, c8, c9, c10, c11, c12, c13, c14, c15] : va_W)[4]? = some c4 := rfl
theorem kg_16_3 {c0 c1 c2 c3 c4 c5 c6 c7 c8 c9 c10 c11 c12 c13 c14 c15 : Nat × va_E} : ([c0, c1, c2, c3, c4, c5, c6, c7, c8, c9, c10, c11, c12, c13, c14, c15] : va_W)[3]? = some c3 := rfl
theorem kt_16_15 {c0 c1 c2 c3 c4 c5 c6 c7 c8 c9 c10 c11 c12 c13 c14 c15 : Nat × va_E} : ([15] : List Nat).filterMap (fun i => ([c0, c1, c2, c3, c4, c5, c6, c7, c8, c9, c10, c11, c12, c13, c14, c15] : va_W)[i]?) = ([c15] : va_W) := rfl
theorem ks_16_15 {c0 c1 c2 c3 c4 c5 c6 c7 c8 c9 c10 c11 c12 c13 c14 c15 : Nat × va_E} : ([15] : List Nat).map (fun i => ([c0, c1, c2, c3, c4, c5, c6, c7, c8, c9, c10, c11, c12, c13, c14, c15] : va_W)[i]?) = ([c15] : va_W).map some := rfl
theorem ks_16_0_1_2_3_4_5_6_7_8_9_10_11_12_13_14 {c0 c1 c2 c3 c4 c5 c6 c7 c8 c9 c10 c11 c12 c13 c14 c15 : Nat × va_E} : ([0, 1, 2, 3, 4, 5, 6, 7, 8, 9, 10, 11, 12, 13, 14] : List Nat).map (fun i => ([c0, c1, c2, c3, c4, c5, c6, c7, c8, c9, c10, c11, c12, c13, c14, c15] : va_W)[i]?) = ([c0, c1, c2, c3, c4, c5, c6, c7, c8, c9, c10, c11, c12, c13, c14] : va_W).map some := rfl
theorem kg_16_5 {c0 c1 c2 c3 c4 c5 c6 c7 c8 c9 c10 c11 c12 c13 c14 c15 : Nat × va_E} : ([c0, c1, c2, c3, c4, c5, c6, c7, c8, c9, c10, c11, c12, c13, c14, c15] : va_W)[5]? = some c5 := rfl
theorem kg_15_0 {c0 c1 c2 c3 c4 c5 c6 c7 c8 c9 c10 c11 c12 c13 c14 : Nat × va_E} : ([c0, c1, c2, c3, c4, c5, c6, c7, c8, c9, c10, c11, c12, c13, c14] : va_W)[0]? = some c0 := rfl
theorem kg_15_3 {c0 c1 c2 c3 c4 c5 c6 c7 c8 c9 c10 c11 c12 c13 c14 : Nat × va_E} : ([c0, c1, c2, c3, c4, c5, c6, c7, c8, c9, c10, c11, c12, c13, c14] : va_W)[3]? = some c3 := rfl
theorem kg_15_1 {c0 c1 c2 c3 c4 c5 c6 c7 c8 c9 c10 c11 c12 c13 c14 : Nat × va_E} : ([c0, c1, c2, c3, c4, c5, c6, c7, c8, c9, c10, c11, c12, c13, c14] : va_W)[1]? = some c1 := rfl
theorem kg_15_2 {c0 c1 c2 c3 c4 c5 c6 c7 c8 c9 c10 c11 c12 c13 c14 : Nat × va_E} : ([c0, c1, c2, c3, c4, c5, c6, c7, c8, c9, c10, c11, c12, c13, c14] : va_W)[2]? = some c2 := rfl
theorem kt_15_4_8 {c0 c1 c2 c3 c4 c5 c6 c7 c8 c9 c10 c11 c12 c13 c14 : Nat × va_E} : ([4, 8] : List Nat).filterMap (fun i => ([c0, c1, c2, c3, c4, c5, c6, c7, c8, c9, c10, c11, c12, c13, c14] : va_W)[i]?) = ([c4, c8] : va_W) := rfl
theorem ks_15_4_8 {c0 c1 c2 c3 c4 c5 c6 c7 c8 c9 c10 c11 c12 c13 c14 : Nat × va_E} : ([4, 8] : List Nat).map (fun i => ([c0, c1, c2, c3, c4, c5, c6, c7, c8, c9, c10, c11, c12, c13, c14] : va_W)[i]?) = ([c4, c8] : va_W).map some := rfl
theorem ks_15_0_1_2_3_5_6_7_9_10_11_12_13_14 {c0 c1 c2 c3 c4 c5 c6 c7 c8 c9 c10 c11 c12 c13 c14 : Nat × va_E} : ([0, 1, 2, 3, 5, 6, 7, 9, 10, 11, 12, 13, 14] : List Nat).map (fun i => ([c0, c1, c2, c3, c4, c5, c6, c7, c8, c9, c10, c11, c12, c13, c14] : va_W)[i]?) = ([c0, c1, c2, c3, c5, c6, c7, c9, c10, c11, c12, c13, c14] : va_W).map some := rfl
theorem kt_15_0_1_2_3_13_4_5_6_14_7_8_9_10_11_12 {c0 c1 c2 c3 c4 c5 c6 c7 c8 c9 c10 c11 c12 c13 c14 : Nat × va_E} : ([0, 1, 2, 3, 13, 4, 5, 6, 14, 7, 8, 9, 10, 11, 12] : List Nat).filterMap (fun i => ([c0, c1, c2, c3, c4, c5, c6, c7, c8, c9, c10, c11, c12, c13, c14] : va_W)[i]?) = ([c0, c1, c2, c3, c13, c4, c5, c6, c14, c7, c8, c9, c10, c11, c12] : va_W) := rfl
theorem ks_15_0_1_2_3_13_4_5_6_14_7_8_9_10_11_12 {c0 c1 c2 c3 c4 c5 c6 c7 c8 c9 c10 c11 c12 c13 c14 : Nat × va_E} : ([0, 1, 2, 3, 13, 4, 5, 6, 14, 7, 8, 9, 10, 11, 12] : List Nat).map (fun i => ([c0, c1, c2, c3, c4, c5, c6, c7, c8, c9, c10, c11, c12, c13, c14] : va_W)[i]?) = ([c0, c1, c2, c3, c13, c4, c5, c6, c14, c7, c8, c9, c10, c11, c12] : va_W).map some := rfl
theorem kg_15_4 {c0 c1 c2 c3 c4 c5 c6 c7 c8 c9 c10 c11 c12 c13 c14 : Nat × va_E} : ([c0, c1, c2, c3, c4, c5, c6, c7, c8, c9, c10, c11, c12, c13, c14] : va_W)[4]? = some c4 := rfl
theorem kg_15_5 {c0 c1 c2 c3 c4 c5 c6 c7 c8 c9 c10 c11 c12 c13 c14 : Nat × va_E} : ([c0, c1, c2, c3, c4, c5, c6, c7, c8, c9, c10, c11, c12, c13, c14] : va_W)[5]? = some c5 := rfl
theorem kg_15_6 {c0 c1 c2 c3 c4 c5 c6 c7 c8 c9 c10 c11 c12 c13 c14 : Nat × va_E} : ([c0, c1, c2, c3, c4, c5, c6, c7, c8, c9, c10, c11, c12, c13, c14] : va_W)[6]? = some c6 := rfl
theorem kg_15_7 {c0 c1 c2 c3 c4 c5 c6 c7 c8 c9 c10 c11 c12 c13 c14 : Nat × va_E} : ([c0, c1, c2, c3, c4, c5, c6, c7, c8, c9, c10, c11, c12, c13, c14] : va_W)[7]? = some c7 := rfl
theorem kt_15_0_1_2_3 {c0 c1 c2 c3 c4 c5 c6 c7 c8 c9 c10 c11 c12 c13 c14 : Nat × va_E} : ([0, 1, 2, 3] : List Nat).filterMap (fun i => ([c0, c1, c2, c3, c4, c5, c6, c7, c8, c9, c10, c11, c12, c13, c14] : va_W)[i]?) = ([c0, c1, c2, c3] : va_W) := rfl
theorem ks_15_0_1_2_3 {c0 c1 c2 c3 c4 c5 c6 c7 c8 c9 c10 c11 c12 c13 c14 : Nat × va_E} : ([0, 1, 2, 3] : List Nat).map (fun i => ([c0, c1, c2, c3, c4, c5, c6, c7, c8, c9, c10, c11, c12, c13, c14] : va_W)[i]?) = ([c0, c1, c2, c3] : va_W).map some := rfl
theorem ks_15_4_5_6_7_8_9_10_11_12_13_14 {c0 c1 c2 c3 c4 c5 c6 c7 c8 c9 c10 c11 c12 c13 c14 : Nat × va_E} : ([4, 5, 6, 7, 8, 9, 10, 11, 12, 13, 14] : List Nat).map (fun i => ([c0, c1, c2, c3, c4, c5, c6, c7, c8, c9, c10, c11, c12, c13, c14] : va_W)[i]?) = ([c4, c5, c6, c7, c8, c9, c10, c11, c12, c13, c14] : va_W).map some := rfl
theorem kt_15_11_12_13_14_0_1_2_3_4_5_6_7_8_9_10 {c0 c1 c2 c3 c4 c5 c6 c7 c8 c9 c10 c11 c12 c13 c14 : Nat × va_E} : ([11, 12, 13, 14, 0, 1, 2, 3, 4, 5, 6, 7, 8, 9, 10] : List Nat).filterMap (fun i => ([c0, c1, c2, c3, c4, c5, c6, c7, c8, c9, c10, c11, c12, c13, c14] : va_W)[i]?) = ([c11, c12, c13, c14, c0, c1, c2, c3, c4, c5, c6, c7, c8, c9, c10] : va_W) := rfl
theorem ks_15_11_12_13_14_0_1_2_3_4_5_6_7_8_9_10 {c0 c1 c2 c3 c4 c5 c6 c7 c8 c9 c10 c11 c12 c13 c14 : Nat × va_E} : ([11, 12, 13, 14, 0, 1, 2, 3, 4, 5, 6, 7, 8, 9, 10] : List Nat).map (fun i => ([c0, c1, c2, c3, c4, c5, c6, c7, c8, c9, c10, c11, c12, c13, c14] : va_W)[i]?) = ([c11, c12, c13, c14, c0, c1, c2, c3, c4, c5, c6, c7, c8, c9, c10] : va_W).map some := rfl
theorem kg_15_8 {c0 c1 c2 c3 c4 c5 c6 c7 c8 c9 c10 c11 c12 c13 c14 : Nat × va_E} : ([c0, c1, c2, c3, c4, c5, c6, c7, c8, c9, c10, c11, c12, c13, c14] : va_W)[8]? = some c8 := rfl
theorem kt_15_9_10_11_12_13 {c0 c1 c2 c3 c4 c5 c6 c7 c8 c9 c10 c11 c12 c13 c14 : Nat × va_E} : ([9, 10, 11, 12, 13] : List Nat).filterMap (fun i => ([c0, c1, c2, c3, c4, c5, c6, c7, c8, c9, c10, c11, c12, c13, c14] : va_W)[i]?) = ([c9, c10, c11, c12, c13] : va_W) := rfl
theorem ks_15_9_10_11_12_13 {c0 c1 c2 c3 c4 c5 c6 c7 c8 c9 c10 c11 c12 c13 c14 : Nat × va_E} : ([9, 10, 11, 12, 13] : List Nat).map (fun i => ([c0, c1, c2, c3, c4, c5, c6, c7, c8, c9, c10, c11, c12, c13, c14] : va_W)[i]?) = ([c9, c10, c11, c12, c13] : va_W).map some := rfl
theorem ks_15_0_1_2_3_4_5_6_7_8_14 {c0 c1 c2 c3 c4 c5 c6 c7 c8 c9 c10 c11 c12 c13 c14 : Nat × va_E} : ([0, 1, 2, 3, 4, 5, 6, 7, 8, 14] : List Nat).map (fun i => ([c0, c1, c2, c3, c4, c5, c6, c7, c8, c9, c10, c11, c12, c13, c14] : va_W)[i]?) = ([c0, c1, c2, c3, c4, c5, c6, c7, c8, c14] : va_W).map some := rfl
theorem kt_15_0_1_2_3_4_5_6_7_8_10_11_12_13_14_9 {c0 c1 c2 c3 c4 c5 c6 c7 c8 c9 c10 c11 c12 c13 c14 : Nat × va_E} : ([0, 1, 2, 3, 4, 5, 6, 7, 8, 10, 11, 12, 13, 14, 9] : List Nat).filterMap (fun i => ([c0, c1, c2, c3, c4, c5, c6, c7, c8, c9, c10, c11, c12, c13, c14] : va_W)[i]?) = ([c0, c1, c2, c3, c4, c5, c6, c7, c8, c10, c11, c12, c13, c14, c9] : va_W) := rfl
theorem ks_15_0_1_2_3_4_5_6_7_8_10_11_12_13_14_9 {c0 c1 c2 c3 c4 c5 c6 c7 c8 c9 c10 c11 c12 c13 c14 : Nat × va_E} : ([0, 1, 2, 3, 4, 5, 6, 7, 8, 10, 11, 12, 13, 14, 9] : List Nat).map (fun i => ([c0, c1, c2, c3, c4, c5, c6, c7, c8, c9, c10, c11, c12, c13, c14] : va_W)[i]?) = ([c0, c1, c2, c3, c4, c5, c6, c7, c8, c10, c11, c12, c13, c14, c9] : va_W).map some := rfl
theorem kg_15_14 {c0 c1 c2 c3 c4 c5 c6 c7 c8 c9 c10 c11 c12 c13 c14 : Nat × va_E} : ([c0, c1, c2, c3, c4, c5, c6, c7, c8, c9, c10, c11, c12, c13, c14] : va_W)[14]? = some c14 := rfl
theorem kz_15_14 {c0 c1 c2 c3 c4 c5 c6 c7 c8 c9 c10 c11 c12 c13 c14 : Nat × va_E} {x : Nat × va_E} : ([c0, c1, c2, c3, c4, c5, c6, c7, c8, c9, c10, c11, c12, c13, c14] : va_W).set 14 x = [c0, c1, c2, c3, c4, c5, c6, c7, c8, c9, c10, c11, c12, c13, x] := rfl
theorem kt_10_4_8 {c0 c1 c2 c3 c4 c5 c6 c7 c8 c9 : Nat × va_E} : ([4, 8] : List Nat).filterMap (fun i => ([c0, c1, c2, c3, c4, c5, c6, c7, c8, c9] : va_W)[i]?) = ([c4, c8] : va_W) := rfl
theorem ks_10_4_8 {c0 c1 c2 c3 c4 c5 c6 c7 c8 c9 : Nat × va_E} : ([4, 8] : List Nat).map (fun i => ([c0, c1, c2, c3, c4, c5, c6, c7, c8, c9] : va_W)[i]?) = ([c4, c8] : va_W).map some := rfl
theorem ks_10_0_1_2_3_5_6_7_9 {c0 c1 c2 c3 c4 c5 c6 c7 c8 c9 : Nat × va_E} : ([0, 1, 2, 3, 5, 6, 7, 9] : List Nat).map (fun i => ([c0, c1, c2, c3, c4, c5, c6, c7, c8, c9] : va_W)[i]?) = ([c0, c1, c2, c3, c5, c6, c7, c9] : va_W).map some := rfl
theorem kt_10_0_1_2_3_8_4_5_6_9_7 {c0 c1 c2 c3 c4 c5 c6 c7 c8 c9 : Nat × va_E} : ([0, 1, 2, 3, 8, 4, 5, 6, 9, 7] : List Nat).filterMap (fun i => ([c0, c1, c2, c3, c4, c5, c6, c7, c8, c9] : va_W)[i]?) = ([c0, c1, c2, c3, c8, c4, c5, c6, c9, c7] : va_W) := rfl
theorem ks_10_0_1_2_3_8_4_5_6_9_7 {c0 c1 c2 c3 c4 c5 c6 c7 c8 c9 : Nat × va_E} : ([0, 1, 2, 3, 8, 4, 5, 6, 9, 7] : List Nat).map (fun i => ([c0, c1, c2, c3, c4, c5, c6, c7, c8, c9] : va_W)[i]?) = ([c0, c1, c2, c3, c8, c4, c5, c6, c9, c7] : va_W).map some := rfl
theorem kg_10_6 {c0 c1 c2 c3 c4 c5 c6 c7 c8 c9 : Nat × va_E} : ([c0, c1, c2, c3, c4, c5, c6, c7, c8, c9] : va_W)[6]? = some c6 := rfl
theorem kt_10_0_1_2_3 {c0 c1 c2 c3 c4 c5 c6 c7 c8 c9 : Nat × va_E} : ([0, 1, 2, 3] : List Nat).filterMap (fun i => ([c0, c1, c2, c3, c4, c5, c6, c7, c8, c9] : va_W)[i]?) = ([c0, c1, c2, c3] : va_W) := rfl
theorem ks_10_0_1_2_3 {c0 c1 c2 c3 c4 c5 c6 c7 c8 c9 : Nat × va_E} : ([0, 1, 2, 3] : List Nat).map (fun i => ([c0, c1, c2, c3, c4, c5, c6, c7, c8, c9] : va_W)[i]?) = ([c0, c1, c2, c3] : va_W).map some := rfl
theorem ks_10_4_5_6_7_8_9 {c0 c1 c2 c3 c4 c5 c6 c7 c8 c9 : Nat × va_E} : ([4, 5, 6, 7, 8, 9] : List Nat).map (fun i => ([c0, c1, c2, c3, c4, c5, c6, c7, c8, c9] : va_W)[i]?) = ([c4, c5, c6, c7, c8, c9] : va_W).map some := rfl
theorem kt_10_6_7_8_9_0_1_2_3_4_5 {c0 c1 c2 c3 c4 c5 c6 c7 c8 c9 : Nat × va_E} : ([6, 7, 8, 9, 0, 1, 2, 3, 4, 5] : List Nat).filterMap (fun i => ([c0, c1, c2, c3, c4, c5, c6, c7, c8, c9] : va_W)[i]?) = ([c6, c7, c8, c9, c0, c1, c2, c3, c4, c5] : va_W) := rfl
theorem ks_10_6_7_8_9_0_1_2_3_4_5 {c0 c1 c2 c3 c4 c5 c6 c7 c8 c9 : Nat × va_E} : ([6, 7, 8, 9, 0, 1, 2, 3, 4, 5] : List Nat).map (fun i => ([c0, c1, c2, c3, c4, c5, c6, c7, c8, c9] : va_W)[i]?) = ([c6, c7, c8, c9, c0, c1, c2, c3, c4, c5] : va_W).map some := rfl
theorem kt_10_4_5_6_7_8 {c0 c1 c2 c3 c4 c5 c6 c7 c8 c9 : Nat × va_E} : ([4, 5, 6, 7, 8] : List Nat).filterMap (fun i => ([c0, c1, c2, c3, c4, c5, c6, c7, c8, c9] : va_W)[i]?) = ([c4, c5, c6, c7, c8] : va_W) := rfl
theorem ks_10_4_5_6_7_8 {c0 c1 c2 c3 c4 c5 c6 c7 c8 c9 : Nat × va_E} : ([4, 5, 6, 7, 8] : List Nat).map (fun i => ([c0, c1, c2, c3, c4, c5, c6, c7, c8, c9] : va_W)[i]?) = ([c4, c5, c6, c7, c8] : va_W).map some := rfl
theorem ks_10_0_1_2_3_9 {c0 c1 c2 c3 c4 c5 c6 c7 c8 c9 : Nat × va_E} : ([0, 1, 2, 3, 9] : List Nat).map (fun i => ([c0, c1, c2, c3, c4, c5, c6, c7, c8, c9] : va_W)[i]?) = ([c0, c1, c2, c3, c9] : va_W).map some := rfl
theorem kt_10_0_1_2_3_5_6_7_8_9_4 {c0 c1 c2 c3 c4 c5 c6 c7 c8 c9 : Nat × va_E} : ([0, 1, 2, 3, 5, 6, 7, 8, 9, 4] : List Nat).filterMap (fun i => ([c0, c1, c2, c3, c4, c5, c6, c7, c8, c9] : va_W)[i]?) = ([c0, c1, c2, c3, c5, c6, c7, c8, c9, c4] : va_W) := rfl
theorem ks_10_0_1_2_3_5_6_7_8_9_4 {c0 c1 c2 c3 c4 c5 c6 c7 c8 c9 : Nat × va_E} : ([0, 1, 2, 3, 5, 6, 7, 8, 9, 4] : List Nat).map (fun i => ([c0, c1, c2, c3, c4, c5, c6, c7, c8, c9] : va_W)[i]?) = ([c0, c1, c2, c3, c5, c6, c7, c8, c9, c4] : va_W).map some := rfl
theorem kg_10_9 {c0 c1 c2 c3 c4 c5 c6 c7 c8 c9 : Nat × va_E} : ([c0, c1, c2, c3, c4, c5, c6, c7, c8, c9] : va_W)[9]? = some c9 := rfl
theorem kz_10_9 {c0 c1 c2 c3 c4 c5 c6 c7 c8 c9 : Nat × va_E} {x : Nat × va_E} : ([c0, c1, c2, c3, c4, c5, c6, c7, c8, c9] : va_W).set 9 x = [c0, c1, c2, c3, c4, c5, c6, c7, c8, x] := rfl
theorem kw_13 : Cond.selects rr_Ft yy_Ft_shrinkBy yy_Ft_shrinkBy ∈ kx_T := kx_in (i := 13) (by decide +kernel) (by decide +kernel)
theorem kw_15 : Cond.selects rr_Ft yy_Ft_stretchBy yy_Ft_stretchBy ∈ kx_T := kx_in (i := 15) (by decide +kernel) (by decide +kernel)
theorem kw_19 : Cond.selects rr_Se yy_Se_adjacentTo yy_Se_adjacentTo ∈ kx_T := kx_in (i := 19) (by decide +kernel) (by decide +kernel)
theorem kw_45 : Cond.initialized rr_Sg ∈ kx_T := kx_in (i := 45) (by decide +kernel) (by decide +kernel)
theorem kw_48 : Cond.initialized rr_Se ∈ kx_T := kx_in (i := 48) (by decide +kernel) (by decide +kernel)
theorem kw_49 : Cond.initialized rr_Bk ∈ kx_T := kx_in (i := 49) (by decide +kernel) (by decide +kernel)
theorem kw_83 : Cond.fieldLink rr_Ft (48) "LineDesk$Spring" "width" "J" ∈ kx_T := kx_in (i := 83) (by decide +kernel) (by decide +kernel)
theorem kw_85 : Cond.fieldLink rr_Ft (86) "LineDesk$Spring" "stretch" "J" ∈ kx_T := kx_in (i := 85) (by decide +kernel) (by decide +kernel)
theorem kw_87 : Cond.fieldLink rr_Ft (77) "LineDesk$Spring" "highStretch" "J" ∈ kx_T := kx_in (i := 87) (by decide +kernel) (by decide +kernel)
theorem kw_89 : Cond.fieldLink rr_Ft (66) "LineDesk$Spring" "shrink" "J" ∈ kx_T := kx_in (i := 89) (by decide +kernel) (by decide +kernel)
theorem kw_105 : Cond.fieldLink rr_Ft (23) "LineDesk$Settings" "left" "LLineDesk$Spring;" ∈ kx_T := kx_in (i := 105) (by decide +kernel) (by decide +kernel)
theorem kw_108 : Cond.fieldLink rr_Ft (29) "LineDesk$Settings" "right" "LLineDesk$Spring;" ∈ kx_T := kx_in (i := 108) (by decide +kernel) (by decide +kernel)
theorem kw_143 : Cond.fieldLink rr_Ft (42) "LineDesk$Items" "width" "[J" ∈ kx_T := kx_in (i := 143) (by decide +kernel) (by decide +kernel)
theorem kw_145 : Cond.fieldLink rr_Ft (83) "LineDesk$Items" "stretch" "[J" ∈ kx_T := kx_in (i := 145) (by decide +kernel) (by decide +kernel)
theorem kw_147 : Cond.fieldLink rr_Ft (74) "LineDesk$Items" "highStretch" "[J" ∈ kx_T := kx_in (i := 147) (by decide +kernel) (by decide +kernel)
theorem kw_149 : Cond.fieldLink rr_Ft (63) "LineDesk$Items" "shrink" "[J" ∈ kx_T := kx_in (i := 149) (by decide +kernel) (by decide +kernel)
theorem kw_192 : Cond.fieldLink rr_Ft (38) "LineDesk$Breaks" "item" "[I" ∈ kx_T := kx_in (i := 192) (by decide +kernel) (by decide +kernel)
theorem kw_197 : Cond.fieldLink rr_Ft (53) "LineDesk$Breaks" "ahead" "[I" ∈ kx_T := kx_in (i := 197) (by decide +kernel) (by decide +kernel)
theorem kw_199 : Cond.fieldLink rr_Ft (56) "LineDesk$Breaks" "behind" "[I" ∈ kx_T := kx_in (i := 199) (by decide +kernel) (by decide +kernel)
theorem kw_260 : Cond.fieldLink rr_Se (186) "LineDesk$Row" "out" "[J" ∈ kx_T := kx_in (i := 260) (by decide +kernel) (by decide +kernel)
theorem kw_262 : Cond.fieldLink rr_Se (189) "LineDesk$Row" "over" "[I" ∈ kx_T := kx_in (i := 262) (by decide +kernel) (by decide +kernel)
theorem kw_264 : Cond.fieldLink rr_Se (192) "LineDesk$Row" "demerits" "[J" ∈ kx_T := kx_in (i := 264) (by decide +kernel) (by decide +kernel)
theorem kw_266 : Cond.fieldLink rr_Se (91) "LineDesk$Row" "lineCount" "[I" ∈ kx_T := kx_in (i := 266) (by decide +kernel) (by decide +kernel)
theorem kw_279 : Cond.fieldLink rr_Ft (19) "LineDesk$Search" "settings" "LLineDesk$Settings;" ∈ kx_T := kx_in (i := 279) (by decide +kernel) (by decide +kernel)
theorem kw_281 : Cond.fieldLink rr_Ft (9) "LineDesk$Search" "items" "LLineDesk$Items;" ∈ kx_T := kx_in (i := 281) (by decide +kernel) (by decide +kernel)
theorem kw_283 : Cond.fieldLink rr_Ft (15) "LineDesk$Search" "breaks" "LLineDesk$Breaks;" ∈ kx_T := kx_in (i := 283) (by decide +kernel) (by decide +kernel)
theorem kw_288 : Cond.fieldLink rr_Se (48) "LineDesk$Search" "now" "LLineDesk$Row;" ∈ kx_T := kx_in (i := 288) (by decide +kernel) (by decide +kernel)
theorem kw_292 : Cond.fieldLink rr_Se (128) "LineDesk$Search" "places" "I" ∈ kx_T := kx_in (i := 292) (by decide +kernel) (by decide +kernel)
theorem kw_297 : Cond.fieldLink rr_Se (58) "LineDesk$Search" "back" "[I" ∈ kx_T := kx_in (i := 297) (by decide +kernel) (by decide +kernel)
theorem kw_654 : Cond.methodLink rr_Se (118) yy_Rw_offer ∈ kx_T := kx_in (i := 654) (by decide +kernel) (by decide +kernel)
theorem kw_655 : Cond.instanceMethod yy_Rw_offer ∈ kx_T := kx_in (i := 655) (by decide +kernel) (by decide +kernel)
theorem kw_656 : Cond.selects rr_Rw yy_Rw_offer yy_Rw_offer ∈ kx_T := kx_in (i := 656) (by decide +kernel) (by decide +kernel)
set_option maxRecDepth 100000 in
theorem kw_657 : Cond.code yy_Rw_offer bb_Rw_offer 8 (some .boolean) ∈ kx_T := kx_in (i := 657) rfl (by decide +kernel)
theorem kw_683 : Cond.methodLink rr_Ft (32) yy_Bk_beginOf ∈ kx_T := kx_in (i := 683) (by decide +kernel) (by decide +kernel)
theorem kw_684 : Cond.instanceMethod yy_Bk_beginOf ∈ kx_T := kx_in (i := 684) (by decide +kernel) (by decide +kernel)
theorem kw_685 : Cond.selects rr_Bk yy_Bk_beginOf yy_Bk_beginOf ∈ kx_T := kx_in (i := 685) (by decide +kernel) (by decide +kernel)
set_option maxRecDepth 100000 in
theorem kw_686 : Cond.code yy_Bk_beginOf bb_Bk_beginOf 3 (some .int) ∈ kx_T := kx_in (i := 686) rfl (by decide +kernel)
theorem kw_688 : Cond.methodLink rr_Ft (59) yy_Sg_measureOf ∈ kx_T := kx_in (i := 688) (by decide +kernel) (by decide +kernel)
theorem kw_689 : Cond.instanceMethod yy_Sg_measureOf ∈ kx_T := kx_in (i := 689) (by decide +kernel) (by decide +kernel)
theorem kw_690 : Cond.selects rr_Sg yy_Sg_measureOf yy_Sg_measureOf ∈ kx_T := kx_in (i := 690) (by decide +kernel) (by decide +kernel)
set_option maxRecDepth 100000 in
theorem kw_691 : Cond.code yy_Sg_measureOf bb_Sg_measureOf 2 (some .long) ∈ kx_T := kx_in (i := 691) rfl (by decide +kernel)
theorem kw_694 : Cond.methodLink rr_Ft (68) yy_Ft_shrinkBy ∈ kx_T := kx_in (i := 694) (by decide +kernel) (by decide +kernel)
theorem kw_696 : Cond.instanceMethod yy_Ft_shrinkBy ∈ kx_T := kx_in (i := 696) (by decide +kernel) (by decide +kernel)
set_option maxRecDepth 100000 in
theorem kw_697 : Cond.code yy_Ft_shrinkBy bb_Ft_shrinkBy 6 none ∈ kx_T := kx_in (i := 697) rfl (by decide +kernel)
theorem kw_709 : Cond.methodLink rr_Ft (88) yy_Ft_stretchBy ∈ kx_T := kx_in (i := 709) (by decide +kernel) (by decide +kernel)
theorem kw_711 : Cond.instanceMethod yy_Ft_stretchBy ∈ kx_T := kx_in (i := 711) (by decide +kernel) (by decide +kernel)
set_option maxRecDepth 100000 in
theorem kw_712 : Cond.code yy_Ft_stretchBy bb_Ft_stretchBy 6 none ∈ kx_T := kx_in (i := 712) rfl (by decide +kernel)
theorem kw_728 : Cond.methodLink rr_Se (183) yy_Rw_has ∈ kx_T := kx_in (i := 728) (by decide +kernel) (by decide +kernel)
theorem kw_729 : Cond.methodLink rr_Se (195) yy_Se_adjacentTo ∈ kx_T := kx_in (i := 729) (by decide +kernel) (by decide +kernel)
theorem kw_731 : Cond.instanceMethod yy_Se_adjacentTo ∈ kx_T := kx_in (i := 731) (by decide +kernel) (by decide +kernel)
set_option maxRecDepth 100000 in
theorem kw_732 : Cond.code yy_Se_adjacentTo bb_Se_adjacentTo 2 (some .long) ∈ kx_T := kx_in (i := 732) rfl (by decide +kernel)
theorem dd_Ft_judge_0 : decode bb_Ft_judge 0 = .ok (.aload_n 1, 1) := by decide +kernel
theorem dd_Ft_judge_1 : decode bb_Ft_judge 1 = .ok (.getfield 9, 3) := by decide +kernel
theorem dd_Ft_judge_4 : decode bb_Ft_judge 4 = .ok (.astore 5, 2) := by decide +kernel
theorem dd_Ft_judge_6 : decode bb_Ft_judge 6 = .ok (.aload_n 1, 1) := by decide +kernel
theorem dd_Ft_judge_7 : decode bb_Ft_judge 7 = .ok (.getfield 15, 3) := by decide +kernel
theorem dd_Ft_judge_10 : decode bb_Ft_judge 10 = .ok (.astore 6, 2) := by decide +kernel
theorem dd_Ft_judge_12 : decode bb_Ft_judge 12 = .ok (.aload_n 1, 1) := by decide +kernel
theorem dd_Ft_judge_13 : decode bb_Ft_judge 13 = .ok (.getfield 19, 3) := by decide +kernel
theorem dd_Ft_judge_16 : decode bb_Ft_judge 16 = .ok (.getfield 23, 3) := by decide +kernel
theorem dd_Ft_judge_19 : decode bb_Ft_judge 19 = .ok (.astore 7, 2) := by decide +kernel
theorem dd_Ft_judge_21 : decode bb_Ft_judge 21 = .ok (.aload_n 1, 1) := by decide +kernel
theorem dd_Ft_judge_22 : decode bb_Ft_judge 22 = .ok (.getfield 19, 3) := by decide +kernel
theorem dd_Ft_judge_25 : decode bb_Ft_judge 25 = .ok (.getfield 29, 3) := by decide +kernel
theorem dd_Ft_judge_28 : decode bb_Ft_judge 28 = .ok (.astore 8, 2) := by decide +kernel
theorem dd_Ft_judge_30 : decode bb_Ft_judge 30 = .ok (.aload 6, 2) := by decide +kernel
theorem dd_Ft_judge_32 : decode bb_Ft_judge 32 = .ok (.iload_n 2, 1) := by decide +kernel
theorem dd_Ft_judge_33 : decode bb_Ft_judge 33 = .ok (.iload_n 3, 1) := by decide +kernel
theorem dd_Ft_judge_34 : decode bb_Ft_judge 34 = .ok (.invokevirtual 32, 3) := by decide +kernel
theorem dd_Ft_judge_37 : decode bb_Ft_judge 37 = .ok (.istore 9, 2) := by decide +kernel
theorem dd_Ft_judge_39 : decode bb_Ft_judge 39 = .ok (.aload 6, 2) := by decide +kernel
theorem dd_Ft_judge_41 : decode bb_Ft_judge 41 = .ok (.getfield 38, 3) := by decide +kernel
theorem dd_Ft_judge_44 : decode bb_Ft_judge 44 = .ok (.iload_n 3, 1) := by decide +kernel
theorem dd_Ft_judge_45 : decode bb_Ft_judge 45 = .ok (.iaload, 1) := by decide +kernel
theorem dd_Ft_judge_46 : decode bb_Ft_judge 46 = .ok (.istore 10, 2) := by decide +kernel
theorem dd_Ft_judge_48 : decode bb_Ft_judge 48 = .ok (.aload 5, 2) := by decide +kernel
theorem dd_Ft_judge_50 : decode bb_Ft_judge 50 = .ok (.getfield 42, 3) := by decide +kernel
theorem dd_Ft_judge_53 : decode bb_Ft_judge 53 = .ok (.iload 10, 2) := by decide +kernel
theorem dd_Ft_judge_55 : decode bb_Ft_judge 55 = .ok (.laload, 1) := by decide +kernel
theorem dd_Ft_judge_56 : decode bb_Ft_judge 56 = .ok (.aload 5, 2) := by decide +kernel
theorem dd_Ft_judge_58 : decode bb_Ft_judge 58 = .ok (.getfield 42, 3) := by decide +kernel
theorem dd_Ft_judge_61 : decode bb_Ft_judge 61 = .ok (.iload 9, 2) := by decide +kernel
theorem dd_Ft_judge_63 : decode bb_Ft_judge 63 = .ok (.laload, 1) := by decide +kernel
theorem dd_Ft_judge_64 : decode bb_Ft_judge 64 = .ok (.lsub, 1) := by decide +kernel
theorem dd_Ft_judge_65 : decode bb_Ft_judge 65 = .ok (.aload 7, 2) := by decide +kernel
theorem dd_Ft_judge_67 : decode bb_Ft_judge 67 = .ok (.getfield 48, 3) := by decide +kernel
theorem dd_Ft_judge_70 : decode bb_Ft_judge 70 = .ok (.ladd, 1) := by decide +kernel
theorem dd_Ft_judge_71 : decode bb_Ft_judge 71 = .ok (.aload 8, 2) := by decide +kernel
theorem dd_Ft_judge_73 : decode bb_Ft_judge 73 = .ok (.getfield 48, 3) := by decide +kernel
theorem dd_Ft_judge_76 : decode bb_Ft_judge 76 = .ok (.ladd, 1) := by decide +kernel
theorem dd_Ft_judge_77 : decode bb_Ft_judge 77 = .ok (.aload 6, 2) := by decide +kernel
theorem dd_Ft_judge_79 : decode bb_Ft_judge 79 = .ok (.getfield 53, 3) := by decide +kernel
theorem dd_Ft_judge_82 : decode bb_Ft_judge 82 = .ok (.iload_n 3, 1) := by decide +kernel
theorem dd_Ft_judge_83 : decode bb_Ft_judge 83 = .ok (.iaload, 1) := by decide +kernel
theorem dd_Ft_judge_84 : decode bb_Ft_judge 84 = .ok (.i2l, 1) := by decide +kernel
theorem dd_Ft_judge_85 : decode bb_Ft_judge 85 = .ok (.ladd, 1) := by decide +kernel
theorem dd_Ft_judge_86 : decode bb_Ft_judge 86 = .ok (.aload 6, 2) := by decide +kernel
theorem dd_Ft_judge_88 : decode bb_Ft_judge 88 = .ok (.getfield 56, 3) := by decide +kernel
theorem dd_Ft_judge_91 : decode bb_Ft_judge 91 = .ok (.iload_n 2, 1) := by decide +kernel
theorem dd_Ft_judge_92 : decode bb_Ft_judge 92 = .ok (.iaload, 1) := by decide +kernel
theorem dd_Ft_judge_93 : decode bb_Ft_judge 93 = .ok (.i2l, 1) := by decide +kernel
theorem dd_Ft_judge_94 : decode bb_Ft_judge 94 = .ok (.ladd, 1) := by decide +kernel
theorem dd_Ft_judge_95 : decode bb_Ft_judge 95 = .ok (.lstore 11, 2) := by decide +kernel
theorem dd_Ft_judge_97 : decode bb_Ft_judge 97 = .ok (.aload_n 1, 1) := by decide +kernel
theorem dd_Ft_judge_98 : decode bb_Ft_judge 98 = .ok (.getfield 19, 3) := by decide +kernel
theorem dd_Ft_judge_101 : decode bb_Ft_judge 101 = .ok (.iload 4, 2) := by decide +kernel
theorem dd_Ft_judge_103 : decode bb_Ft_judge 103 = .ok (.invokevirtual 59, 3) := by decide +kernel
theorem dd_Ft_judge_106 : decode bb_Ft_judge 106 = .ok (.lload 11, 2) := by decide +kernel
theorem dd_Ft_judge_108 : decode bb_Ft_judge 108 = .ok (.lsub, 1) := by decide +kernel
theorem dd_Ft_judge_109 : decode bb_Ft_judge 109 = .ok (.lstore 13, 2) := by decide +kernel
theorem dd_Ft_judge_111 : decode bb_Ft_judge 111 = .ok (.lload 13, 2) := by decide +kernel
theorem dd_Ft_judge_113 : decode bb_Ft_judge 113 = .ok (.lconst 0, 1) := by decide +kernel
theorem dd_Ft_judge_114 : decode bb_Ft_judge 114 = .ok (.lcmp, 1) := by decide +kernel
theorem dd_Ft_judge_115 : decode bb_Ft_judge 115 = .ok (.ifCond .ge (42), 3) := by decide +kernel
theorem dd_Ft_judge_118 : decode bb_Ft_judge 118 = .ok (.aload_n 0, 1) := by decide +kernel
theorem dd_Ft_judge_119 : decode bb_Ft_judge 119 = .ok (.lload 13, 2) := by decide +kernel
theorem dd_Ft_judge_121 : decode bb_Ft_judge 121 = .ok (.lneg, 1) := by decide +kernel
theorem dd_Ft_judge_122 : decode bb_Ft_judge 122 = .ok (.aload 5, 2) := by decide +kernel
theorem dd_Ft_judge_124 : decode bb_Ft_judge 124 = .ok (.getfield 63, 3) := by decide +kernel
theorem dd_Ft_judge_127 : decode bb_Ft_judge 127 = .ok (.iload 10, 2) := by decide +kernel
theorem dd_Ft_judge_129 : decode bb_Ft_judge 129 = .ok (.laload, 1) := by decide +kernel
theorem dd_Ft_judge_130 : decode bb_Ft_judge 130 = .ok (.aload 5, 2) := by decide +kernel
theorem dd_Ft_judge_132 : decode bb_Ft_judge 132 = .ok (.getfield 63, 3) := by decide +kernel
theorem dd_Ft_judge_135 : decode bb_Ft_judge 135 = .ok (.iload 9, 2) := by decide +kernel
theorem dd_Ft_judge_137 : decode bb_Ft_judge 137 = .ok (.laload, 1) := by decide +kernel
theorem dd_Ft_judge_138 : decode bb_Ft_judge 138 = .ok (.lsub, 1) := by decide +kernel
theorem dd_Ft_judge_139 : decode bb_Ft_judge 139 = .ok (.aload 7, 2) := by decide +kernel
theorem dd_Ft_judge_141 : decode bb_Ft_judge 141 = .ok (.getfield 66, 3) := by decide +kernel
theorem dd_Ft_judge_144 : decode bb_Ft_judge 144 = .ok (.ladd, 1) := by decide +kernel
theorem dd_Ft_judge_145 : decode bb_Ft_judge 145 = .ok (.aload 8, 2) := by decide +kernel
theorem dd_Ft_judge_147 : decode bb_Ft_judge 147 = .ok (.getfield 66, 3) := by decide +kernel
theorem dd_Ft_judge_150 : decode bb_Ft_judge 150 = .ok (.ladd, 1) := by decide +kernel
theorem dd_Ft_judge_151 : decode bb_Ft_judge 151 = .ok (.invokevirtual 68, 3) := by decide +kernel
theorem dd_Ft_judge_154 : decode bb_Ft_judge 154 = .ok (.goto (82), 3) := by decide +kernel
theorem dd_Ft_judge_157 : decode bb_Ft_judge 157 = .ok (.aload 5, 2) := by decide +kernel
theorem dd_Ft_judge_159 : decode bb_Ft_judge 159 = .ok (.getfield 74, 3) := by decide +kernel
theorem dd_Ft_judge_162 : decode bb_Ft_judge 162 = .ok (.iload 10, 2) := by decide +kernel
theorem dd_Ft_judge_164 : decode bb_Ft_judge 164 = .ok (.laload, 1) := by decide +kernel
theorem dd_Ft_judge_165 : decode bb_Ft_judge 165 = .ok (.aload 5, 2) := by decide +kernel
theorem dd_Ft_judge_167 : decode bb_Ft_judge 167 = .ok (.getfield 74, 3) := by decide +kernel
theorem dd_Ft_judge_170 : decode bb_Ft_judge 170 = .ok (.iload 9, 2) := by decide +kernel
theorem dd_Ft_judge_172 : decode bb_Ft_judge 172 = .ok (.laload, 1) := by decide +kernel
theorem dd_Ft_judge_173 : decode bb_Ft_judge 173 = .ok (.lsub, 1) := by decide +kernel
theorem dd_Ft_judge_174 : decode bb_Ft_judge 174 = .ok (.aload 7, 2) := by decide +kernel
theorem dd_Ft_judge_176 : decode bb_Ft_judge 176 = .ok (.getfield 77, 3) := by decide +kernel
theorem dd_Ft_judge_179 : decode bb_Ft_judge 179 = .ok (.ladd, 1) := by decide +kernel
theorem dd_Ft_judge_180 : decode bb_Ft_judge 180 = .ok (.aload 8, 2) := by decide +kernel
theorem dd_Ft_judge_182 : decode bb_Ft_judge 182 = .ok (.getfield 77, 3) := by decide +kernel
theorem dd_Ft_judge_185 : decode bb_Ft_judge 185 = .ok (.ladd, 1) := by decide +kernel
theorem dd_Ft_judge_186 : decode bb_Ft_judge 186 = .ok (.lconst 0, 1) := by decide +kernel
theorem dd_Ft_judge_187 : decode bb_Ft_judge 187 = .ok (.lcmp, 1) := by decide +kernel
theorem dd_Ft_judge_188 : decode bb_Ft_judge 188 = .ok (.ifCond .le (13), 3) := by decide +kernel
theorem dd_Ft_judge_191 : decode bb_Ft_judge 191 = .ok (.aload_n 0, 1) := by decide +kernel
theorem dd_Ft_judge_192 : decode bb_Ft_judge 192 = .ok (.iconst 0, 1) := by decide +kernel
theorem dd_Ft_judge_193 : decode bb_Ft_judge 193 = .ok (.iconst 2, 1) := by decide +kernel
theorem dd_Ft_judge_194 : decode bb_Ft_judge 194 = .ok (.lconst 0, 1) := by decide +kernel
theorem dd_Ft_judge_195 : decode bb_Ft_judge 195 = .ok (.invokevirtual 79, 3) := by decide +kernel
theorem dd_Ft_judge_198 : decode bb_Ft_judge 198 = .ok (.goto (38), 3) := by decide +kernel
theorem dd_Ft_judge_201 : decode bb_Ft_judge 201 = .ok (.aload_n 0, 1) := by decide +kernel
theorem dd_Ft_judge_202 : decode bb_Ft_judge 202 = .ok (.lload 13, 2) := by decide +kernel
theorem dd_Ft_judge_204 : decode bb_Ft_judge 204 = .ok (.aload 5, 2) := by decide +kernel
theorem dd_Ft_judge_206 : decode bb_Ft_judge 206 = .ok (.getfield 83, 3) := by decide +kernel
theorem dd_Ft_judge_209 : decode bb_Ft_judge 209 = .ok (.iload 10, 2) := by decide +kernel
theorem dd_Ft_judge_211 : decode bb_Ft_judge 211 = .ok (.laload, 1) := by decide +kernel
theorem dd_Ft_judge_212 : decode bb_Ft_judge 212 = .ok (.aload 5, 2) := by decide +kernel
theorem dd_Ft_judge_214 : decode bb_Ft_judge 214 = .ok (.getfield 83, 3) := by decide +kernel
theorem dd_Ft_judge_217 : decode bb_Ft_judge 217 = .ok (.iload 9, 2) := by decide +kernel
theorem dd_Ft_judge_219 : decode bb_Ft_judge 219 = .ok (.laload, 1) := by decide +kernel
theorem dd_Ft_judge_220 : decode bb_Ft_judge 220 = .ok (.lsub, 1) := by decide +kernel
theorem dd_Ft_judge_221 : decode bb_Ft_judge 221 = .ok (.aload 7, 2) := by decide +kernel
theorem dd_Ft_judge_223 : decode bb_Ft_judge 223 = .ok (.getfield 86, 3) := by decide +kernel
theorem dd_Ft_judge_226 : decode bb_Ft_judge 226 = .ok (.ladd, 1) := by decide +kernel
theorem dd_Ft_judge_227 : decode bb_Ft_judge 227 = .ok (.aload 8, 2) := by decide +kernel
theorem dd_Ft_judge_229 : decode bb_Ft_judge 229 = .ok (.getfield 86, 3) := by decide +kernel
theorem dd_Ft_judge_232 : decode bb_Ft_judge 232 = .ok (.ladd, 1) := by decide +kernel
theorem dd_Ft_judge_233 : decode bb_Ft_judge 233 = .ok (.invokevirtual 88, 3) := by decide +kernel
theorem dd_Ft_judge_236 : decode bb_Ft_judge 236 = .ok (.return_, 1) := by decide +kernel

set_option maxHeartbeats 4000000 in
set_option maxRecDepth 100000 in
theorem ct_Ft_judge (l : Launch) (D : va_G) (cI cJ cZ : ClassId) (sz : Nat) (h : Nat) (t : Nat) (v1 : Nat) (v2 : Nat) (v3 : Nat) (v4 : Nat) (v5 : Nat) (v6 : Nat) (v7 : Nat) (ps : Nat) (ly : Nat) (op : Int32) (pl : Nat) (wl : Nat) (wc : Nat) (cn : Nat) (i1 : Nat) (i2 : Nat) (i3 : Nat) (i4 : Nat) (i5 : Nat) (i6 : Nat) (i7 : Nat) (i8 : Nat) (i9 : Nat) (ln : Nat) (iw : Nat → Int64) (is_ : Nat → Int64) (ih : Nat → Int64) (ij : Nat → Int64) (k : Nat) (bn : Nat) (lf : Nat) (j1 : Nat) (j2 : Nat) (j3 : Nat) (j4 : Nat) (j5 : Nat) (j6 : Nat) (j7 : Nat) (lk : Nat) (bi : Nat → Int32) (ba : Nat → Int32) (bb : Nat → Int32) (bg : Nat → Int32) (g : Nat) (g0 : Nat) (g1 : Nat) (g2 : Nat) (g3 : Nat) (mc : Nat) (lm : Nat) (ms : Nat → Int32) (l0 : Int64) (l1 : Int64) (l2 : Int64) (l3 : Int64) (r0 : Int64) (r1 : Int64) (r2 : Int64) (r3 : Int64) (f : Nat) (fb : Int32) (fc : Nat) (fo : Int64) (x : Nat) (y : Nat) (n : Nat) (t1 : Nat) (t2 : Nat) (hx1 : x < lk) (hy1 : y < lk) (hlk : lk < 2 ^ 30) (hbi : bi y = nI t1) (hbg : bg x = nI t2) (ht1 : t1 ≤ ln) (ht2 : t2 < 2 ^ 30) (hln : ln < 2 ^ 29) (h1 : 1 ≤ mc) (h2 : mc ≤ lm) (h3 : lm < 2 ^ 30) (h4 : n < 2 ^ 30) : kx_Mv l yy_Ft_judge ww_Ft_judge ({ frames := 2, cells := 0, slots := 0, locals := 50 }) D vwCl (kx_ty cI cJ cZ) [.ref f, .ref h, .int (nI x), .int (nI y), .int (nI n)] [(h, .inr (7, [.ref g, .ref t, .ref k, .ref f, .ref v1, .ref v2, .ref v3, .ref v4, .int (nI ps), .int (nI ly), .int op, .int (nI pl), .int (nI wl), .int (nI wc), .ref v5, .ref v6, .ref v7])), (t, .inr (4, [.int (nI cn), .ref i1, .ref i2, .ref i3, .ref i4, .ref i5, .ref i6, .ref i7, .ref i8, .ref i9])), (i6, .inl (cJ, (ln + 1), .inr (.inl iw))), (i7, .inl (cJ, (ln + 1), .inr (.inl is_))), (i8, .inl (cJ, (ln + 1), .inr (.inl ih))), (i9, .inl (cJ, (ln + 1), .inr (.inl ij))), (k, .inr (2, [.int (nI bn), .int (nI lf), .ref j1, .ref j2, .ref j3, .ref j4, .ref j5, .ref j6, .ref j7])), (j1, .inl (cI, lk, .inl bi)), (j3, .inl (cI, lk, .inl ba)), (j4, .inl (cI, lk, .inl bb)), (j5, .inl (cI, lk, .inl bg)), (g, .inr (8, [.ref g0, .ref g1, .ref g2, .ref g3, .int (nI mc)])), (g3, .inl (cI, lm, .inl ms)), (g1, .inr (9, [.long l0, .long l1, .long l2, .long l3])), (g2, .inr (9, [.long r0, .long r1, .long r2, .long r3])), (f, .inr (3, [.int fb, .int (nI fc), .long fo]))] sz (fun (u : Int32 × Nat × Int64) => u.1 = pm_lb ((ms (max 1 (min n mc) - 1)).toInt64 - (iw t1 - iw (min t2 t1) + l0 + r0 + (ba y).toInt64 + (bb x).toInt64)) (is_ t1 - is_ (min t2 t1) + l1 + r1) (ih t1 - ih (min t2 t1) + l2 + r2) (ij t1 - ij (min t2 t1) + l3 + r3) ∧ u.2.1 = pm_lc ((ms (max 1 (min n mc) - 1)).toInt64 - (iw t1 - iw (min t2 t1) + l0 + r0 + (ba y).toInt64 + (bb x).toInt64)) (is_ t1 - is_ (min t2 t1) + l1 + r1) (ih t1 - ih (min t2 t1) + l2 + r2) (ij t1 - ij (min t2 t1) + l3 + r3) ∧ u.2.2 = pm_lo ((ms (max 1 (min n mc) - 1)).toInt64 - (iw t1 - iw (min t2 t1) + l0 + r0 + (ba y).toInt64 + (bb x).toInt64)) (ij t1 - ij (min t2 t1) + l3 + r3)) (fun (u : Int32 × Nat × Int64) => [(h, .inr (7, [.ref g, .ref t, .ref k, .ref f, .ref v1, .ref v2, .ref v3, .ref v4, .int (nI ps), .int (nI ly), .int op, .int (nI pl), .int (nI wl), .int (nI wc), .ref v5, .ref v6, .ref v7])), (t, .inr (4, [.int (nI cn), .ref i1, .ref i2, .ref i3, .ref i4, .ref i5, .ref i6, .ref i7, .ref i8, .ref i9])), (i6, .inl (cJ, (ln + 1), .inr (.inl iw))), (i7, .inl (cJ, (ln + 1), .inr (.inl is_))), (i8, .inl (cJ, (ln + 1), .inr (.inl ih))), (i9, .inl (cJ, (ln + 1), .inr (.inl ij))), (k, .inr (2, [.int (nI bn), .int (nI lf), .ref j1, .ref j2, .ref j3, .ref j4, .ref j5, .ref j6, .ref j7])), (j1, .inl (cI, lk, .inl bi)), (j3, .inl (cI, lk, .inl ba)), (j4, .inl (cI, lk, .inl bb)), (j5, .inl (cI, lk, .inl bg)), (g, .inr (8, [.ref g0, .ref g1, .ref g2, .ref g3, .int (nI mc)])), (g3, .inl (cI, lm, .inl ms)), (g1, .inr (9, [.long l0, .long l1, .long l2, .long l3])), (g2, .inr (9, [.long r0, .long r1, .long r2, .long r3])), (f, .inr (3, [.int u.1, .int (nI u.2.1), .long u.2.2]))]) 0 0 := by
  refine kx_startv (by decide) rfl (Nat.le_of_ble_eq_true rfl) ?_
  intro p e s m below meth c A ls hx hb hr hml hts hown hlocks hin hP hK hN hD hA hS hl
  have hl : lv_has ls 15 [(0, .ref f), (1, .ref h), (2, .int (nI x)), (3, .int (nI y)), (4, .int (nI n))] := hl
  have hown : s.vm.findClass rr_Ft = some m.cls := hown
  have lk0 := hts _ (kx_m kw_281)
  have hin7 : ∀ w ∈ u_ws rr_Se tt_Se 17, w ∈ ww_Ft_judge := fun w h => kx_m (kf_Se w h)
  have lk2 := hts _ (kx_m kw_283)
  have lk3 := hts _ (kx_m kw_279)
  have lk4 := hts _ (kx_m kw_105)
  have hin8 : ∀ w ∈ u_ws rr_Sg tt_Sg 5, w ∈ ww_Ft_judge := fun w h => kx_m (kf_Sg w h)
  have lk6 := hts _ (kx_m kw_108)
  have lk7 := hts _ (kx_m kw_192)
  have hin2 : ∀ w ∈ u_ws rr_Bk tt_Bk 9, w ∈ ww_Ft_judge := fun w h => kx_m (kf_Bk w h)
  have lk9 := hts _ (kx_m kw_143)
  have hin4 : ∀ w ∈ u_ws rr_It tt_It 10, w ∈ ww_Ft_judge := fun w h => kx_m (kf_It w h)
  have lk11 := hts _ (kx_m kw_83)
  have hin9 : ∀ w ∈ u_ws rr_Sp tt_Sp 4, w ∈ ww_Ft_judge := fun w h => kx_m (kf_Sp w h)
  have lk13 := hts _ (kx_m kw_197)
  have lk14 := hts _ (kx_m kw_199)
  have lk15 := hts _ (kx_m kw_147)
  have lk16 := hts _ (kx_m kw_87)
  have lk17 := hts _ (kx_m kw_145)
  have lk18 := hts _ (kx_m kw_85)
  have lk19 := hts _ (kx_m kw_149)
  have lk20 := hts _ (kx_m kw_89)
  obtain ⟨H, hH⟩ : ∃ H, H = s.heap := ⟨_, rfl⟩
  obtain ⟨locs, hlocs⟩ : ∃ z : List Loc, z = [] := ⟨_, rfl⟩
  have hP : va_P D vwCl [(h, .inr (7, [.ref g, .ref t, .ref k, .ref f, .ref v1, .ref v2, .ref v3, .ref v4, .int (nI ps), .int (nI ly), .int op, .int (nI pl), .int (nI wl), .int (nI wc), .ref v5, .ref v6, .ref v7])), (t, .inr (4, [.int (nI cn), .ref i1, .ref i2, .ref i3, .ref i4, .ref i5, .ref i6, .ref i7, .ref i8, .ref i9])), (i6, .inl (cJ, (ln + 1), .inr (.inl iw))), (i7, .inl (cJ, (ln + 1), .inr (.inl is_))), (i8, .inl (cJ, (ln + 1), .inr (.inl ih))), (i9, .inl (cJ, (ln + 1), .inr (.inl ij))), (k, .inr (2, [.int (nI bn), .int (nI lf), .ref j1, .ref j2, .ref j3, .ref j4, .ref j5, .ref j6, .ref j7])), (j1, .inl (cI, lk, .inl bi)), (j3, .inl (cI, lk, .inl ba)), (j4, .inl (cI, lk, .inl bb)), (j5, .inl (cI, lk, .inl bg)), (g, .inr (8, [.ref g0, .ref g1, .ref g2, .ref g3, .int (nI mc)])), (g3, .inl (cI, lm, .inl ms)), (g1, .inr (9, [.long l0, .long l1, .long l2, .long l3])), (g2, .inr (9, [.long r0, .long r1, .long r2, .long r3])), (f, .inr (3, [.int fb, .int (nI fc), .long fo]))] H := by rw [hH]; exact hP
  have hS : va_S A s.heap H locs := by rw [hH, hlocs]; exact hS
  refine kx_gen hH hlocs ?_
  clear hH hlocs
  refine kx_nameQ (fun Q hQ => ?_)
  refine lv_aload_n hx hb dd_Ft_judge_0 rfl (lv_at hl 1 rfl) ?_
  refine va_get (D := D) (ci := 7) (v := .ref t) (C := rr_Se) (T := tt_Se) (N := 17) hx hb hts hin7 hown hK hP 0 kg_16_0 rfl 1 (by decide) lk0 (fun _ h9 => h9) rfl dd_Ft_judge_1 ?_
  refine lv_astore (lv' := [(5, .ref t), (0, .ref f), (1, .ref h), (2, .int (nI x)), (3, .int (nI y)), (4, .int (nI n))]) hx hb dd_Ft_judge_4 hl (by decide) rfl (fun ls hl => ?_)
  refine lv_aload_n hx hb dd_Ft_judge_6 rfl (lv_at hl 2 rfl) ?_
  refine va_get (D := D) (ci := 7) (v := .ref k) (C := rr_Se) (T := tt_Se) (N := 17) hx hb hts hin7 hown hK hP 0 kg_16_0 rfl 2 (by decide) lk2 (fun _ h9 => h9) rfl dd_Ft_judge_7 ?_
  refine lv_astore (lv' := [(6, .ref k), (5, .ref t), (0, .ref f), (1, .ref h), (2, .int (nI x)), (3, .int (nI y)), (4, .int (nI n))]) hx hb dd_Ft_judge_10 hl (by decide) rfl (fun ls hl => ?_)
  refine lv_aload_n hx hb dd_Ft_judge_12 rfl (lv_at hl 3 rfl) ?_
  refine va_get (D := D) (ci := 7) (v := .ref g) (C := rr_Se) (T := tt_Se) (N := 17) hx hb hts hin7 hown hK hP 0 kg_16_0 rfl 0 (by decide) lk3 (fun _ h9 => h9) rfl dd_Ft_judge_13 ?_
  refine va_get (D := D) (ci := 8) (v := .ref g1) (C := rr_Sg) (T := tt_Sg) (N := 5) hx hb hts hin8 hown hK hP 11 kg_16_11 rfl 1 (by decide) lk4 (fun _ h9 => h9) rfl dd_Ft_judge_16 ?_
  refine lv_astore (lv' := [(7, .ref g1), (6, .ref k), (5, .ref t), (0, .ref f), (1, .ref h), (2, .int (nI x)), (3, .int (nI y)), (4, .int (nI n))]) hx hb dd_Ft_judge_19 hl (by decide) rfl (fun ls hl => ?_)
  refine lv_aload_n hx hb dd_Ft_judge_21 rfl (lv_at hl 4 rfl) ?_
  refine va_get (D := D) (ci := 7) (v := .ref g) (C := rr_Se) (T := tt_Se) (N := 17) hx hb hts hin7 hown hK hP 0 kg_16_0 rfl 0 (by decide) lk3 (fun _ h9 => h9) rfl dd_Ft_judge_22 ?_
  refine va_get (D := D) (ci := 8) (v := .ref g2) (C := rr_Sg) (T := tt_Sg) (N := 5) hx hb hts hin8 hown hK hP 11 kg_16_11 rfl 2 (by decide) lk6 (fun _ h9 => h9) rfl dd_Ft_judge_25 ?_
  refine lv_astore (lv' := [(8, .ref g2), (7, .ref g1), (6, .ref k), (5, .ref t), (0, .ref f), (1, .ref h), (2, .int (nI x)), (3, .int (nI y)), (4, .int (nI n))]) hx hb dd_Ft_judge_28 hl (by decide) rfl (fun ls hl => ?_)
  refine lv_aload hx hb dd_Ft_judge_30 (lv_at hl 2 rfl) ?_
  refine lv_iload_n hx hb dd_Ft_judge_32 rfl (lv_at hl 6 rfl) ?_
  refine lv_iload_n hx hb dd_Ft_judge_33 rfl (lv_at hl 7 rfl) ?_
  refine kx_calli (wr := [(h, .inr (7, [.ref g, .ref t, .ref k, .ref f, .ref v1, .ref v2, .ref v3, .ref v4, .int (nI ps), .int (nI ly), .int op, .int (nI pl), .int (nI wl), .int (nI wc), .ref v5, .ref v6, .ref v7])), (t, .inr (4, [.int (nI cn), .ref i1, .ref i2, .ref i3, .ref i4, .ref i5, .ref i6, .ref i7, .ref i8, .ref i9])), (i6, .inl (cJ, (ln + 1), .inr (.inl iw))), (i7, .inl (cJ, (ln + 1), .inr (.inl is_))), (i8, .inl (cJ, (ln + 1), .inr (.inl ih))), (i9, .inl (cJ, (ln + 1), .inr (.inl ij))), (j3, .inl (cI, lk, .inl ba)), (j4, .inl (cI, lk, .inl bb)), (g, .inr (8, [.ref g0, .ref g1, .ref g2, .ref g3, .int (nI mc)])), (g3, .inl (cI, lm, .inl ms)), (g1, .inr (9, [.long l0, .long l1, .long l2, .long l3])), (g2, .inr (9, [.long r0, .long r1, .long r2, .long r3])), (f, .inr (3, [.int fb, .int (nI fc), .long fo]))]) (va_runV (C := rr_Bk) (As := [.int (nI x), .int (nI y)]) (rest := []) ⟨hx, hb, hml, hown, hts⟩ (ct_Bk_beginOf l D cI cJ cZ H.size k bn lf j1 j2 j3 j4 j5 j6 j7 lk bi bg x y (by omega) (by omega) (by omega)) ⟨(callB_of 2 hts (kx_good kw_686) rfl rfl rfl (hts _ (kx_m kw_49)) (hts _ (kx_m kw_683)) (by decide +kernel) ⟨Nat.le_of_ble_eq_true rfl, Nat.le_of_ble_eq_true rfl⟩), (hts _ (kx_m kw_684)), (hts _ (kx_m kw_685))⟩ (kx_preV (ci := 2) (q0 := 0) hK hN (hP.sub [6, 7, 10] kt_16_6_7_10) (hD.sub [6, 7, 10] (by decide) ks_16_6_7_10) rfl kg_3_0) rfl rfl hl.1 rfl (lv_room (Nat.le_of_ble_eq_true rfl)) dd_Ft_judge_34 ⟨Nat.le_of_ble_eq_true rfl, Nat.le_of_ble_eq_true rfl⟩) hP hD hS hA [6, 7, 10] [0, 1, 2, 3, 4, 5, 8, 9, 11, 12, 13, 14, 15] ks_16_6_7_10 ks_16_0_1_2_3_4_5_8_9_11_12_13_14_15 (by decide) (by decide) (fun r34 u34 H locs hw34 hP hD hS => ?_)
  have hP : va_P D vwCl [(h, .inr (7, [.ref g, .ref t, .ref k, .ref f, .ref v1, .ref v2, .ref v3, .ref v4, .int (nI ps), .int (nI ly), .int op, .int (nI pl), .int (nI wl), .int (nI wc), .ref v5, .ref v6, .ref v7])), (t, .inr (4, [.int (nI cn), .ref i1, .ref i2, .ref i3, .ref i4, .ref i5, .ref i6, .ref i7, .ref i8, .ref i9])), (i6, .inl (cJ, (ln + 1), .inr (.inl iw))), (i7, .inl (cJ, (ln + 1), .inr (.inl is_))), (i8, .inl (cJ, (ln + 1), .inr (.inl ih))), (i9, .inl (cJ, (ln + 1), .inr (.inl ij))), (j3, .inl (cI, lk, .inl ba)), (j4, .inl (cI, lk, .inl bb)), (g, .inr (8, [.ref g0, .ref g1, .ref g2, .ref g3, .int (nI mc)])), (g3, .inl (cI, lm, .inl ms)), (g1, .inr (9, [.long l0, .long l1, .long l2, .long l3])), (g2, .inr (9, [.long r0, .long r1, .long r2, .long r3])), (f, .inr (3, [.int fb, .int (nI fc), .long fo])), (k, .inr (2, [.int (nI bn), .int (nI lf), .ref j1, .ref j2, .ref j3, .ref j4, .ref j5, .ref j6, .ref j7])), (j1, .inl (cI, lk, .inl bi)), (j5, .inl (cI, lk, .inl bg))] H := hP
  have hD : va_D A [(h, .inr (7, [.ref g, .ref t, .ref k, .ref f, .ref v1, .ref v2, .ref v3, .ref v4, .int (nI ps), .int (nI ly), .int op, .int (nI pl), .int (nI wl), .int (nI wc), .ref v5, .ref v6, .ref v7])), (t, .inr (4, [.int (nI cn), .ref i1, .ref i2, .ref i3, .ref i4, .ref i5, .ref i6, .ref i7, .ref i8, .ref i9])), (i6, .inl (cJ, (ln + 1), .inr (.inl iw))), (i7, .inl (cJ, (ln + 1), .inr (.inl is_))), (i8, .inl (cJ, (ln + 1), .inr (.inl ih))), (i9, .inl (cJ, (ln + 1), .inr (.inl ij))), (j3, .inl (cI, lk, .inl ba)), (j4, .inl (cI, lk, .inl bb)), (g, .inr (8, [.ref g0, .ref g1, .ref g2, .ref g3, .int (nI mc)])), (g3, .inl (cI, lm, .inl ms)), (g1, .inr (9, [.long l0, .long l1, .long l2, .long l3])), (g2, .inr (9, [.long r0, .long r1, .long r2, .long r3])), (f, .inr (3, [.int fb, .int (nI fc), .long fo])), (k, .inr (2, [.int (nI bn), .int (nI lf), .ref j1, .ref j2, .ref j3, .ref j4, .ref j5, .ref j6, .ref j7])), (j1, .inl (cI, lk, .inl bi)), (j5, .inl (cI, lk, .inl bg))] := hD
  have hP : va_P D vwCl [(h, .inr (7, [.ref g, .ref t, .ref k, .ref f, .ref v1, .ref v2, .ref v3, .ref v4, .int (nI ps), .int (nI ly), .int op, .int (nI pl), .int (nI wl), .int (nI wc), .ref v5, .ref v6, .ref v7])), (t, .inr (4, [.int (nI cn), .ref i1, .ref i2, .ref i3, .ref i4, .ref i5, .ref i6, .ref i7, .ref i8, .ref i9])), (i6, .inl (cJ, (ln + 1), .inr (.inl iw))), (i7, .inl (cJ, (ln + 1), .inr (.inl is_))), (i8, .inl (cJ, (ln + 1), .inr (.inl ih))), (i9, .inl (cJ, (ln + 1), .inr (.inl ij))), (k, .inr (2, [.int (nI bn), .int (nI lf), .ref j1, .ref j2, .ref j3, .ref j4, .ref j5, .ref j6, .ref j7])), (j1, .inl (cI, lk, .inl bi)), (j3, .inl (cI, lk, .inl ba)), (j4, .inl (cI, lk, .inl bb)), (j5, .inl (cI, lk, .inl bg)), (g, .inr (8, [.ref g0, .ref g1, .ref g2, .ref g3, .int (nI mc)])), (g3, .inl (cI, lm, .inl ms)), (g1, .inr (9, [.long l0, .long l1, .long l2, .long l3])), (g2, .inr (9, [.long r0, .long r1, .long r2, .long r3])), (f, .inr (3, [.int fb, .int (nI fc), .long fo]))] H := hP.sub [0, 1, 2, 3, 4, 5, 13, 14, 6, 7, 15, 8, 9, 10, 11, 12] kt_16_0_1_2_3_4_5_13_14_6_7_15_8_9_10_11_12
  have hD : va_D A [(h, .inr (7, [.ref g, .ref t, .ref k, .ref f, .ref v1, .ref v2, .ref v3, .ref v4, .int (nI ps), .int (nI ly), .int op, .int (nI pl), .int (nI wl), .int (nI wc), .ref v5, .ref v6, .ref v7])), (t, .inr (4, [.int (nI cn), .ref i1, .ref i2, .ref i3, .ref i4, .ref i5, .ref i6, .ref i7, .ref i8, .ref i9])), (i6, .inl (cJ, (ln + 1), .inr (.inl iw))), (i7, .inl (cJ, (ln + 1), .inr (.inl is_))), (i8, .inl (cJ, (ln + 1), .inr (.inl ih))), (i9, .inl (cJ, (ln + 1), .inr (.inl ij))), (k, .inr (2, [.int (nI bn), .int (nI lf), .ref j1, .ref j2, .ref j3, .ref j4, .ref j5, .ref j6, .ref j7])), (j1, .inl (cI, lk, .inl bi)), (j3, .inl (cI, lk, .inl ba)), (j4, .inl (cI, lk, .inl bb)), (j5, .inl (cI, lk, .inl bg)), (g, .inr (8, [.ref g0, .ref g1, .ref g2, .ref g3, .int (nI mc)])), (g3, .inl (cI, lm, .inl ms)), (g1, .inr (9, [.long l0, .long l1, .long l2, .long l3])), (g2, .inr (9, [.long r0, .long r1, .long r2, .long r3])), (f, .inr (3, [.int fb, .int (nI fc), .long fo]))] := hD.sub [0, 1, 2, 3, 4, 5, 13, 14, 6, 7, 15, 8, 9, 10, 11, 12] (by decide) ks_16_0_1_2_3_4_5_13_14_6_7_15_8_9_10_11_12
  have hw34 : r34 = if bi y < bg x then bi y else bg x := hw34
  subst hw34
  refine kx_toN (n := min t2 t1) (by rw [hbi, hbg]; exact kn_min (by omega) (by omega)) ?_
  refine lv_istore (lv' := [(9, .int (nI (min t2 t1))), (8, .ref g2), (7, .ref g1), (6, .ref k), (5, .ref t), (0, .ref f), (1, .ref h), (2, .int (nI x)), (3, .int (nI y)), (4, .int (nI n))]) hx hb dd_Ft_judge_37 hl (by decide) rfl (fun ls hl => ?_)
  refine lv_aload hx hb dd_Ft_judge_39 (lv_at hl 3 rfl) ?_
  refine va_get (D := D) (ci := 2) (v := .ref j1) (C := rr_Bk) (T := tt_Bk) (N := 9) hx hb hts hin2 hown hK hP 6 kg_16_6 rfl 2 (by decide) lk7 (fun _ h9 => h9) rfl dd_Ft_judge_41 ?_
  refine lv_iload_n hx hb dd_Ft_judge_44 rfl (lv_at hl 8 rfl) ?_
  refine kx_iald (q0 := 7) (t0 := 0) hx hb dd_Ft_judge_45 hK hP kg_16_7 rfl (by omega) (by omega) ?_
  refine kx_toN (n := t1) (hbi) ?_
  refine lv_istore (lv' := [(10, .int (nI t1)), (9, .int (nI (min t2 t1))), (8, .ref g2), (7, .ref g1), (6, .ref k), (5, .ref t), (0, .ref f), (1, .ref h), (2, .int (nI x)), (3, .int (nI y)), (4, .int (nI n))]) hx hb dd_Ft_judge_46 hl (by decide) rfl (fun ls hl => ?_)
  refine lv_aload hx hb dd_Ft_judge_48 (lv_at hl 5 rfl) ?_
  refine va_get (D := D) (ci := 4) (v := .ref i6) (C := rr_It) (T := tt_It) (N := 10) hx hb hts hin4 hown hK hP 1 kg_16_1 rfl 6 (by decide) lk9 (fun _ h9 => h9) rfl dd_Ft_judge_50 ?_
  refine lv_iload hx hb dd_Ft_judge_53 (lv_at hl 0 rfl) ?_
  refine kx_lald (q0 := 2) (t0 := 1) hx hb dd_Ft_judge_55 hK hP kg_16_2 rfl (by omega) (by omega) ?_
  refine lv_aload hx hb dd_Ft_judge_56 (lv_at hl 5 rfl) ?_
  refine va_get (D := D) (ci := 4) (v := .ref i6) (C := rr_It) (T := tt_It) (N := 10) hx hb hts hin4 hown hK hP 1 kg_16_1 rfl 6 (by decide) lk9 (fun _ h9 => h9) rfl dd_Ft_judge_58 ?_
  refine lv_iload hx hb dd_Ft_judge_61 (lv_at hl 1 rfl) ?_
  refine kx_lald (q0 := 2) (t0 := 1) hx hb dd_Ft_judge_63 hK hP kg_16_2 rfl (by omega) (by omega) ?_
  refine lv_lsub hx hb dd_Ft_judge_64 ?_
  refine lv_aload hx hb dd_Ft_judge_65 (lv_at hl 3 rfl) ?_
  refine va_get (D := D) (ci := 9) (v := .long l0) (C := rr_Sp) (T := tt_Sp) (N := 4) hx hb hts hin9 hown hK hP 13 kg_16_13 rfl 0 (by decide) lk11 (fun _ h9 => h9) rfl dd_Ft_judge_67 ?_
  refine lv_ladd hx hb dd_Ft_judge_70 ?_
  refine lv_aload hx hb dd_Ft_judge_71 (lv_at hl 2 rfl) ?_
  refine va_get (D := D) (ci := 9) (v := .long r0) (C := rr_Sp) (T := tt_Sp) (N := 4) hx hb hts hin9 hown hK hP 14 kg_16_14 rfl 0 (by decide) lk11 (fun _ h9 => h9) rfl dd_Ft_judge_73 ?_
  refine lv_ladd hx hb dd_Ft_judge_76 ?_
  refine lv_aload hx hb dd_Ft_judge_77 (lv_at hl 4 rfl) ?_
  refine va_get (D := D) (ci := 2) (v := .ref j3) (C := rr_Bk) (T := tt_Bk) (N := 9) hx hb hts hin2 hown hK hP 6 kg_16_6 rfl 4 (by decide) lk13 (fun _ h9 => h9) rfl dd_Ft_judge_79 ?_
  refine lv_iload_n hx hb dd_Ft_judge_82 rfl (lv_at hl 9 rfl) ?_
  refine kx_iald (q0 := 8) (t0 := 0) hx hb dd_Ft_judge_83 hK hP kg_16_8 rfl (by omega) (by omega) ?_
  refine lv_i2l hx hb dd_Ft_judge_84 rfl ?_
  refine lv_ladd hx hb dd_Ft_judge_85 ?_
  refine lv_aload hx hb dd_Ft_judge_86 (lv_at hl 4 rfl) ?_
  refine va_get (D := D) (ci := 2) (v := .ref j4) (C := rr_Bk) (T := tt_Bk) (N := 9) hx hb hts hin2 hown hK hP 6 kg_16_6 rfl 5 (by decide) lk14 (fun _ h9 => h9) rfl dd_Ft_judge_88 ?_
  refine lv_iload_n hx hb dd_Ft_judge_91 rfl (lv_at hl 8 rfl) ?_
  refine kx_iald (q0 := 9) (t0 := 0) hx hb dd_Ft_judge_92 hK hP kg_16_9 rfl (by omega) (by omega) ?_
  refine lv_i2l hx hb dd_Ft_judge_93 rfl ?_
  refine lv_ladd hx hb dd_Ft_judge_94 ?_
  refine lv_lstore (lv' := [(11, .long ((((((iw t1) - (iw (min t2 t1))) + l0) + r0) + ((ba y).toInt64)) + ((bb x).toInt64))), (10, .int (nI t1)), (9, .int (nI (min t2 t1))), (8, .ref g2), (7, .ref g1), (6, .ref k), (5, .ref t), (0, .ref f), (1, .ref h), (2, .int (nI x)), (3, .int (nI y)), (4, .int (nI n))]) hx hb dd_Ft_judge_95 hl (by decide) rfl (fun ls hl => ?_)
  refine lv_aload_n hx hb dd_Ft_judge_97 rfl (lv_at hl 8 rfl) ?_
  refine va_get (D := D) (ci := 7) (v := .ref g) (C := rr_Se) (T := tt_Se) (N := 17) hx hb hts hin7 hown hK hP 0 kg_16_0 rfl 0 (by decide) lk3 (fun _ h9 => h9) rfl dd_Ft_judge_98 ?_
  refine lv_iload hx hb dd_Ft_judge_101 (lv_at hl 11 rfl) ?_
  refine kx_calll (wr := [(h, .inr (7, [.ref g, .ref t, .ref k, .ref f, .ref v1, .ref v2, .ref v3, .ref v4, .int (nI ps), .int (nI ly), .int op, .int (nI pl), .int (nI wl), .int (nI wc), .ref v5, .ref v6, .ref v7])), (t, .inr (4, [.int (nI cn), .ref i1, .ref i2, .ref i3, .ref i4, .ref i5, .ref i6, .ref i7, .ref i8, .ref i9])), (i6, .inl (cJ, (ln + 1), .inr (.inl iw))), (i7, .inl (cJ, (ln + 1), .inr (.inl is_))), (i8, .inl (cJ, (ln + 1), .inr (.inl ih))), (i9, .inl (cJ, (ln + 1), .inr (.inl ij))), (k, .inr (2, [.int (nI bn), .int (nI lf), .ref j1, .ref j2, .ref j3, .ref j4, .ref j5, .ref j6, .ref j7])), (j1, .inl (cI, lk, .inl bi)), (j3, .inl (cI, lk, .inl ba)), (j4, .inl (cI, lk, .inl bb)), (j5, .inl (cI, lk, .inl bg)), (g1, .inr (9, [.long l0, .long l1, .long l2, .long l3])), (g2, .inr (9, [.long r0, .long r1, .long r2, .long r3])), (f, .inr (3, [.int fb, .int (nI fc), .long fo]))]) (va_runV (C := rr_Sg) (As := [.int (nI n)]) (rest := []) ⟨hx, hb, hml, hown, hts⟩ (ct_Sg_measureOf l D cI cJ cZ H.size g g0 g1 g2 g3 mc lm ms n (by omega) (by omega) (by omega) (by omega)) ⟨(callB_of 1 hts (kx_good kw_691) rfl rfl rfl (hts _ (kx_m kw_45)) (hts _ (kx_m kw_688)) (by decide +kernel) ⟨Nat.le_of_ble_eq_true rfl, Nat.le_of_ble_eq_true rfl⟩), (hts _ (kx_m kw_689)), (hts _ (kx_m kw_690))⟩ (kx_preV (ci := 8) (q0 := 0) hK hN (hP.sub [11, 12] kt_16_11_12) (hD.sub [11, 12] (by decide) ks_16_11_12) rfl kg_2_0) rfl rfl hl.1 rfl (lv_room (Nat.le_of_ble_eq_true rfl)) dd_Ft_judge_103 ⟨Nat.le_of_ble_eq_true rfl, Nat.le_of_ble_eq_true rfl⟩) hP hD hS hA [11, 12] [0, 1, 2, 3, 4, 5, 6, 7, 8, 9, 10, 13, 14, 15] ks_16_11_12 ks_16_0_1_2_3_4_5_6_7_8_9_10_13_14_15 (by decide) (by decide) (fun r103 u103 H locs hw103 hP hD hS => ?_)
  have hP : va_P D vwCl [(h, .inr (7, [.ref g, .ref t, .ref k, .ref f, .ref v1, .ref v2, .ref v3, .ref v4, .int (nI ps), .int (nI ly), .int op, .int (nI pl), .int (nI wl), .int (nI wc), .ref v5, .ref v6, .ref v7])), (t, .inr (4, [.int (nI cn), .ref i1, .ref i2, .ref i3, .ref i4, .ref i5, .ref i6, .ref i7, .ref i8, .ref i9])), (i6, .inl (cJ, (ln + 1), .inr (.inl iw))), (i7, .inl (cJ, (ln + 1), .inr (.inl is_))), (i8, .inl (cJ, (ln + 1), .inr (.inl ih))), (i9, .inl (cJ, (ln + 1), .inr (.inl ij))), (k, .inr (2, [.int (nI bn), .int (nI lf), .ref j1, .ref j2, .ref j3, .ref j4, .ref j5, .ref j6, .ref j7])), (j1, .inl (cI, lk, .inl bi)), (j3, .inl (cI, lk, .inl ba)), (j4, .inl (cI, lk, .inl bb)), (j5, .inl (cI, lk, .inl bg)), (g1, .inr (9, [.long l0, .long l1, .long l2, .long l3])), (g2, .inr (9, [.long r0, .long r1, .long r2, .long r3])), (f, .inr (3, [.int fb, .int (nI fc), .long fo])), (g, .inr (8, [.ref g0, .ref g1, .ref g2, .ref g3, .int (nI mc)])), (g3, .inl (cI, lm, .inl ms))] H := hP
  have hD : va_D A [(h, .inr (7, [.ref g, .ref t, .ref k, .ref f, .ref v1, .ref v2, .ref v3, .ref v4, .int (nI ps), .int (nI ly), .int op, .int (nI pl), .int (nI wl), .int (nI wc), .ref v5, .ref v6, .ref v7])), (t, .inr (4, [.int (nI cn), .ref i1, .ref i2, .ref i3, .ref i4, .ref i5, .ref i6, .ref i7, .ref i8, .ref i9])), (i6, .inl (cJ, (ln + 1), .inr (.inl iw))), (i7, .inl (cJ, (ln + 1), .inr (.inl is_))), (i8, .inl (cJ, (ln + 1), .inr (.inl ih))), (i9, .inl (cJ, (ln + 1), .inr (.inl ij))), (k, .inr (2, [.int (nI bn), .int (nI lf), .ref j1, .ref j2, .ref j3, .ref j4, .ref j5, .ref j6, .ref j7])), (j1, .inl (cI, lk, .inl bi)), (j3, .inl (cI, lk, .inl ba)), (j4, .inl (cI, lk, .inl bb)), (j5, .inl (cI, lk, .inl bg)), (g1, .inr (9, [.long l0, .long l1, .long l2, .long l3])), (g2, .inr (9, [.long r0, .long r1, .long r2, .long r3])), (f, .inr (3, [.int fb, .int (nI fc), .long fo])), (g, .inr (8, [.ref g0, .ref g1, .ref g2, .ref g3, .int (nI mc)])), (g3, .inl (cI, lm, .inl ms))] := hD
  have hP : va_P D vwCl [(h, .inr (7, [.ref g, .ref t, .ref k, .ref f, .ref v1, .ref v2, .ref v3, .ref v4, .int (nI ps), .int (nI ly), .int op, .int (nI pl), .int (nI wl), .int (nI wc), .ref v5, .ref v6, .ref v7])), (t, .inr (4, [.int (nI cn), .ref i1, .ref i2, .ref i3, .ref i4, .ref i5, .ref i6, .ref i7, .ref i8, .ref i9])), (i6, .inl (cJ, (ln + 1), .inr (.inl iw))), (i7, .inl (cJ, (ln + 1), .inr (.inl is_))), (i8, .inl (cJ, (ln + 1), .inr (.inl ih))), (i9, .inl (cJ, (ln + 1), .inr (.inl ij))), (k, .inr (2, [.int (nI bn), .int (nI lf), .ref j1, .ref j2, .ref j3, .ref j4, .ref j5, .ref j6, .ref j7])), (j1, .inl (cI, lk, .inl bi)), (j3, .inl (cI, lk, .inl ba)), (j4, .inl (cI, lk, .inl bb)), (j5, .inl (cI, lk, .inl bg)), (g, .inr (8, [.ref g0, .ref g1, .ref g2, .ref g3, .int (nI mc)])), (g3, .inl (cI, lm, .inl ms)), (g1, .inr (9, [.long l0, .long l1, .long l2, .long l3])), (g2, .inr (9, [.long r0, .long r1, .long r2, .long r3])), (f, .inr (3, [.int fb, .int (nI fc), .long fo]))] H := hP.sub [0, 1, 2, 3, 4, 5, 6, 7, 8, 9, 10, 14, 15, 11, 12, 13] kt_16_0_1_2_3_4_5_6_7_8_9_10_14_15_11_12_13
  have hD : va_D A [(h, .inr (7, [.ref g, .ref t, .ref k, .ref f, .ref v1, .ref v2, .ref v3, .ref v4, .int (nI ps), .int (nI ly), .int op, .int (nI pl), .int (nI wl), .int (nI wc), .ref v5, .ref v6, .ref v7])), (t, .inr (4, [.int (nI cn), .ref i1, .ref i2, .ref i3, .ref i4, .ref i5, .ref i6, .ref i7, .ref i8, .ref i9])), (i6, .inl (cJ, (ln + 1), .inr (.inl iw))), (i7, .inl (cJ, (ln + 1), .inr (.inl is_))), (i8, .inl (cJ, (ln + 1), .inr (.inl ih))), (i9, .inl (cJ, (ln + 1), .inr (.inl ij))), (k, .inr (2, [.int (nI bn), .int (nI lf), .ref j1, .ref j2, .ref j3, .ref j4, .ref j5, .ref j6, .ref j7])), (j1, .inl (cI, lk, .inl bi)), (j3, .inl (cI, lk, .inl ba)), (j4, .inl (cI, lk, .inl bb)), (j5, .inl (cI, lk, .inl bg)), (g, .inr (8, [.ref g0, .ref g1, .ref g2, .ref g3, .int (nI mc)])), (g3, .inl (cI, lm, .inl ms)), (g1, .inr (9, [.long l0, .long l1, .long l2, .long l3])), (g2, .inr (9, [.long r0, .long r1, .long r2, .long r3])), (f, .inr (3, [.int fb, .int (nI fc), .long fo]))] := hD.sub [0, 1, 2, 3, 4, 5, 6, 7, 8, 9, 10, 14, 15, 11, 12, 13] (by decide) ks_16_0_1_2_3_4_5_6_7_8_9_10_14_15_11_12_13
  have hw103 : r103 = (ms (max 1 (min n mc) - 1)).toInt64 := hw103
  subst hw103
  refine lv_lload hx hb dd_Ft_judge_106 (lv_at hl 0 rfl) ?_
  refine lv_lsub hx hb dd_Ft_judge_108 ?_
  refine lv_lstore (lv' := [(13, .long (((ms (max 1 (min n mc) - 1)).toInt64) - ((((((iw t1) - (iw (min t2 t1))) + l0) + r0) + ((ba y).toInt64)) + ((bb x).toInt64)))), (11, .long ((((((iw t1) - (iw (min t2 t1))) + l0) + r0) + ((ba y).toInt64)) + ((bb x).toInt64))), (10, .int (nI t1)), (9, .int (nI (min t2 t1))), (8, .ref g2), (7, .ref g1), (6, .ref k), (5, .ref t), (0, .ref f), (1, .ref h), (2, .int (nI x)), (3, .int (nI y)), (4, .int (nI n))]) hx hb dd_Ft_judge_109 hl (by decide) rfl (fun ls hl => ?_)
  refine lv_lload hx hb dd_Ft_judge_111 (lv_at hl 0 rfl) ?_
  refine lv_lconst (v := 0) hx hb dd_Ft_judge_113 (by decide) ?_
  refine W.lcmp hx hb dd_Ft_judge_114 ?_
  refine lv_if_ge (tgt := 157) hx hb dd_Ft_judge_115 (by decide) (fun c115 => ?_) (fun c115 => ?_)
  · skip
    have c115 := (lg_cmp_ge _ _).mp c115
    refine lv_aload hx hb dd_Ft_judge_157 (lv_at hl 7 rfl) ?_
    refine va_get (D := D) (ci := 4) (v := .ref i8) (C := rr_It) (T := tt_It) (N := 10) hx hb hts hin4 hown hK hP 1 kg_16_1 rfl 8 (by decide) lk15 (fun _ h9 => h9) rfl dd_Ft_judge_159 ?_
    refine lv_iload hx hb dd_Ft_judge_162 (lv_at hl 2 rfl) ?_
    refine kx_lald (q0 := 4) (t0 := 1) hx hb dd_Ft_judge_164 hK hP kg_16_4 rfl (by omega) (by omega) ?_
    refine lv_aload hx hb dd_Ft_judge_165 (lv_at hl 7 rfl) ?_
    refine va_get (D := D) (ci := 4) (v := .ref i8) (C := rr_It) (T := tt_It) (N := 10) hx hb hts hin4 hown hK hP 1 kg_16_1 rfl 8 (by decide) lk15 (fun _ h9 => h9) rfl dd_Ft_judge_167 ?_
    refine lv_iload hx hb dd_Ft_judge_170 (lv_at hl 3 rfl) ?_
    refine kx_lald (q0 := 4) (t0 := 1) hx hb dd_Ft_judge_172 hK hP kg_16_4 rfl (by omega) (by omega) ?_
    refine lv_lsub hx hb dd_Ft_judge_173 ?_
    refine lv_aload hx hb dd_Ft_judge_174 (lv_at hl 5 rfl) ?_
    refine va_get (D := D) (ci := 9) (v := .long l2) (C := rr_Sp) (T := tt_Sp) (N := 4) hx hb hts hin9 hown hK hP 13 kg_16_13 rfl 2 (by decide) lk16 (fun _ h9 => h9) rfl dd_Ft_judge_176 ?_
    refine lv_ladd hx hb dd_Ft_judge_179 ?_
    refine lv_aload hx hb dd_Ft_judge_180 (lv_at hl 4 rfl) ?_
    refine va_get (D := D) (ci := 9) (v := .long r2) (C := rr_Sp) (T := tt_Sp) (N := 4) hx hb hts hin9 hown hK hP 14 kg_16_14 rfl 2 (by decide) lk16 (fun _ h9 => h9) rfl dd_Ft_judge_182 ?_
    refine lv_ladd hx hb dd_Ft_judge_185 ?_
    refine lv_lconst (v := 0) hx hb dd_Ft_judge_186 (by decide) ?_
    refine W.lcmp hx hb dd_Ft_judge_187 ?_
    refine lv_if_le (tgt := 201) hx hb dd_Ft_judge_188 (by decide) (fun c188 => ?_) (fun c188 => ?_)
    · skip
      have c188 := (lg_cmp_le _ _).mp c188
      refine lv_aload_n hx hb dd_Ft_judge_201 rfl (lv_at hl 8 rfl) ?_
      refine lv_lload hx hb dd_Ft_judge_202 (lv_at hl 0 rfl) ?_
      refine lv_aload hx hb dd_Ft_judge_204 (lv_at hl 7 rfl) ?_
      refine va_get (D := D) (ci := 4) (v := .ref i7) (C := rr_It) (T := tt_It) (N := 10) hx hb hts hin4 hown hK hP 1 kg_16_1 rfl 7 (by decide) lk17 (fun _ h9 => h9) rfl dd_Ft_judge_206 ?_
      refine lv_iload hx hb dd_Ft_judge_209 (lv_at hl 2 rfl) ?_
      refine kx_lald (q0 := 3) (t0 := 1) hx hb dd_Ft_judge_211 hK hP kg_16_3 rfl (by omega) (by omega) ?_
      refine lv_aload hx hb dd_Ft_judge_212 (lv_at hl 7 rfl) ?_
      refine va_get (D := D) (ci := 4) (v := .ref i7) (C := rr_It) (T := tt_It) (N := 10) hx hb hts hin4 hown hK hP 1 kg_16_1 rfl 7 (by decide) lk17 (fun _ h9 => h9) rfl dd_Ft_judge_214 ?_
      refine lv_iload hx hb dd_Ft_judge_217 (lv_at hl 3 rfl) ?_
      refine kx_lald (q0 := 3) (t0 := 1) hx hb dd_Ft_judge_219 hK hP kg_16_3 rfl (by omega) (by omega) ?_
      refine lv_lsub hx hb dd_Ft_judge_220 ?_
      refine lv_aload hx hb dd_Ft_judge_221 (lv_at hl 5 rfl) ?_
      refine va_get (D := D) (ci := 9) (v := .long l1) (C := rr_Sp) (T := tt_Sp) (N := 4) hx hb hts hin9 hown hK hP 13 kg_16_13 rfl 1 (by decide) lk18 (fun _ h9 => h9) rfl dd_Ft_judge_223 ?_
      refine lv_ladd hx hb dd_Ft_judge_226 ?_
      refine lv_aload hx hb dd_Ft_judge_227 (lv_at hl 4 rfl) ?_
      refine va_get (D := D) (ci := 9) (v := .long r1) (C := rr_Sp) (T := tt_Sp) (N := 4) hx hb hts hin9 hown hK hP 14 kg_16_14 rfl 1 (by decide) lk18 (fun _ h9 => h9) rfl dd_Ft_judge_229 ?_
      refine lv_ladd hx hb dd_Ft_judge_232 ?_
      refine kx_callv (wr := [(h, .inr (7, [.ref g, .ref t, .ref k, .ref f, .ref v1, .ref v2, .ref v3, .ref v4, .int (nI ps), .int (nI ly), .int op, .int (nI pl), .int (nI wl), .int (nI wc), .ref v5, .ref v6, .ref v7])), (t, .inr (4, [.int (nI cn), .ref i1, .ref i2, .ref i3, .ref i4, .ref i5, .ref i6, .ref i7, .ref i8, .ref i9])), (i6, .inl (cJ, (ln + 1), .inr (.inl iw))), (i7, .inl (cJ, (ln + 1), .inr (.inl is_))), (i8, .inl (cJ, (ln + 1), .inr (.inl ih))), (i9, .inl (cJ, (ln + 1), .inr (.inl ij))), (k, .inr (2, [.int (nI bn), .int (nI lf), .ref j1, .ref j2, .ref j3, .ref j4, .ref j5, .ref j6, .ref j7])), (j1, .inl (cI, lk, .inl bi)), (j3, .inl (cI, lk, .inl ba)), (j4, .inl (cI, lk, .inl bb)), (j5, .inl (cI, lk, .inl bg)), (g, .inr (8, [.ref g0, .ref g1, .ref g2, .ref g3, .int (nI mc)])), (g3, .inl (cI, lm, .inl ms)), (g1, .inr (9, [.long l0, .long l1, .long l2, .long l3])), (g2, .inr (9, [.long r0, .long r1, .long r2, .long r3]))]) (va_runV (C := rr_Ft) (As := [.long (((ms (max 1 (min n mc) - 1)).toInt64) - ((((((iw t1) - (iw (min t2 t1))) + l0) + r0) + ((ba y).toInt64)) + ((bb x).toInt64))), .long ((((is_ t1) - (is_ (min t2 t1))) + l1) + r1)]) (rest := []) ⟨hx, hb, hml, hown, hts⟩ (ct_Ft_stretchBy l D cI cJ cZ H.size f fb fc fo (((ms (max 1 (min n mc) - 1)).toInt64) - ((((((iw t1) - (iw (min t2 t1))) + l0) + r0) + ((ba y).toInt64)) + ((bb x).toInt64))) ((((is_ t1) - (is_ (min t2 t1))) + l1) + r1)) ⟨(callB_of 2 hts (kx_good kw_712) rfl rfl rfl (hts _ (kx_m kw_50)) (hts _ (kx_m kw_709)) (by decide +kernel) ⟨Nat.le_of_ble_eq_true rfl, Nat.le_of_ble_eq_true rfl⟩), (hts _ (kx_m kw_711)), (hts _ (kx_m kw_15))⟩ (kx_preV (ci := 3) (q0 := 0) hK hN (hP.sub [15] kt_16_15) (hD.sub [15] (by decide) ks_16_15) rfl kg_1_0) rfl rfl hl.1 rfl (lv_room (Nat.le_of_ble_eq_true rfl)) dd_Ft_judge_233 ⟨Nat.le_of_ble_eq_true rfl, Nat.le_of_ble_eq_true rfl⟩) hP hD hS hA [15] [0, 1, 2, 3, 4, 5, 6, 7, 8, 9, 10, 11, 12, 13, 14] ks_16_15 ks_16_0_1_2_3_4_5_6_7_8_9_10_11_12_13_14 (by decide) (by decide) (fun u233 H locs hw233 hP hD hS => ?_)
      have hP : va_P D vwCl [(h, .inr (7, [.ref g, .ref t, .ref k, .ref f, .ref v1, .ref v2, .ref v3, .ref v4, .int (nI ps), .int (nI ly), .int op, .int (nI pl), .int (nI wl), .int (nI wc), .ref v5, .ref v6, .ref v7])), (t, .inr (4, [.int (nI cn), .ref i1, .ref i2, .ref i3, .ref i4, .ref i5, .ref i6, .ref i7, .ref i8, .ref i9])), (i6, .inl (cJ, (ln + 1), .inr (.inl iw))), (i7, .inl (cJ, (ln + 1), .inr (.inl is_))), (i8, .inl (cJ, (ln + 1), .inr (.inl ih))), (i9, .inl (cJ, (ln + 1), .inr (.inl ij))), (k, .inr (2, [.int (nI bn), .int (nI lf), .ref j1, .ref j2, .ref j3, .ref j4, .ref j5, .ref j6, .ref j7])), (j1, .inl (cI, lk, .inl bi)), (j3, .inl (cI, lk, .inl ba)), (j4, .inl (cI, lk, .inl bb)), (j5, .inl (cI, lk, .inl bg)), (g, .inr (8, [.ref g0, .ref g1, .ref g2, .ref g3, .int (nI mc)])), (g3, .inl (cI, lm, .inl ms)), (g1, .inr (9, [.long l0, .long l1, .long l2, .long l3])), (g2, .inr (9, [.long r0, .long r1, .long r2, .long r3])), (f, .inr (3, [.int (pm_bad (((ms (max 1 (min n mc) - 1)).toInt64) - ((((((iw t1) - (iw (min t2 t1))) + l0) + r0) + ((ba y).toInt64)) + ((bb x).toInt64))) ((((is_ t1) - (is_ (min t2 t1))) + l1) + r1)), .int (nI (pm_c1 (pm_bad (((ms (max 1 (min n mc) - 1)).toInt64) - ((((((iw t1) - (iw (min t2 t1))) + l0) + r0) + ((ba y).toInt64)) + ((bb x).toInt64))) ((((is_ t1) - (is_ (min t2 t1))) + l1) + r1)))), .long (0 : Int64)]))] H := hP
      have hD : va_D A [(h, .inr (7, [.ref g, .ref t, .ref k, .ref f, .ref v1, .ref v2, .ref v3, .ref v4, .int (nI ps), .int (nI ly), .int op, .int (nI pl), .int (nI wl), .int (nI wc), .ref v5, .ref v6, .ref v7])), (t, .inr (4, [.int (nI cn), .ref i1, .ref i2, .ref i3, .ref i4, .ref i5, .ref i6, .ref i7, .ref i8, .ref i9])), (i6, .inl (cJ, (ln + 1), .inr (.inl iw))), (i7, .inl (cJ, (ln + 1), .inr (.inl is_))), (i8, .inl (cJ, (ln + 1), .inr (.inl ih))), (i9, .inl (cJ, (ln + 1), .inr (.inl ij))), (k, .inr (2, [.int (nI bn), .int (nI lf), .ref j1, .ref j2, .ref j3, .ref j4, .ref j5, .ref j6, .ref j7])), (j1, .inl (cI, lk, .inl bi)), (j3, .inl (cI, lk, .inl ba)), (j4, .inl (cI, lk, .inl bb)), (j5, .inl (cI, lk, .inl bg)), (g, .inr (8, [.ref g0, .ref g1, .ref g2, .ref g3, .int (nI mc)])), (g3, .inl (cI, lm, .inl ms)), (g1, .inr (9, [.long l0, .long l1, .long l2, .long l3])), (g2, .inr (9, [.long r0, .long r1, .long r2, .long r3])), (f, .inr (3, [.int (pm_bad (((ms (max 1 (min n mc) - 1)).toInt64) - ((((((iw t1) - (iw (min t2 t1))) + l0) + r0) + ((ba y).toInt64)) + ((bb x).toInt64))) ((((is_ t1) - (is_ (min t2 t1))) + l1) + r1)), .int (nI (pm_c1 (pm_bad (((ms (max 1 (min n mc) - 1)).toInt64) - ((((((iw t1) - (iw (min t2 t1))) + l0) + r0) + ((ba y).toInt64)) + ((bb x).toInt64))) ((((is_ t1) - (is_ (min t2 t1))) + l1) + r1)))), .long (0 : Int64)]))] := hD
      rw [hQ]
      exact kx_vret hx hb hr hlocks hK hN hS dd_Ft_judge_236 (pm_bad (((ms (max 1 (min n mc) - 1)).toInt64) - ((((((iw t1) - (iw (min t2 t1))) + l0) + r0) + ((ba y).toInt64)) + ((bb x).toInt64))) ((((is_ t1) - (is_ (min t2 t1))) + l1) + r1), pm_c1 (pm_bad (((ms (max 1 (min n mc) - 1)).toInt64) - ((((((iw t1) - (iw (min t2 t1))) + l0) + r0) + ((ba y).toInt64)) + ((bb x).toInt64))) ((((is_ t1) - (is_ (min t2 t1))) + l1) + r1)), (0 : Int64)) hP hD (by first | (have h0 : ((ms (max 1 (min n mc) - 1)).toInt64 - (iw t1 - iw (min t2 t1) + l0 + r0 + (ba y).toInt64 + (bb x).toInt64)) < 0 := Int64.not_le.mp c115; unfold pm_lb pm_lc pm_lo; rw [if_pos h0, if_pos h0, if_pos h0]; exact hw151) | (have h0 : ¬ ((ms (max 1 (min n mc) - 1)).toInt64 - (iw t1 - iw (min t2 t1) + l0 + r0 + (ba y).toInt64 + (bb x).toInt64)) < 0 := Int64.not_lt.mpr c115; unfold pm_lb pm_lc pm_lo; rw [if_neg h0, if_neg h0, if_neg h0, if_neg c188]; exact ⟨rfl, rfl, rfl⟩) | (have h0 : ¬ ((ms (max 1 (min n mc) - 1)).toInt64 - (iw t1 - iw (min t2 t1) + l0 + r0 + (ba y).toInt64 + (bb x).toInt64)) < 0 := Int64.not_lt.mpr c115; unfold pm_lb pm_lc pm_lo; rw [if_neg h0, if_neg h0, if_neg h0, if_pos c188]; exact ⟨rfl, rfl, rfl⟩))
    · skip
      have c188 : ¬ (((((ih t1) - (ih (min t2 t1))) + l2) + r2) ≤ (0 : Int64)) := fun h => c188 ((lg_cmp_le _ _).mpr h)
      refine lv_aload_n hx hb dd_Ft_judge_191 rfl (lv_at hl 8 rfl) ?_
      refine lv_iconst (v := nI 0) hx hb dd_Ft_judge_192 (by decide) ?_
      refine lv_iconst (v := nI 2) hx hb dd_Ft_judge_193 (by decide) ?_
      refine lv_lconst (v := 0) hx hb dd_Ft_judge_194 (by decide) ?_
      refine kx_callv (wr := [(h, .inr (7, [.ref g, .ref t, .ref k, .ref f, .ref v1, .ref v2, .ref v3, .ref v4, .int (nI ps), .int (nI ly), .int op, .int (nI pl), .int (nI wl), .int (nI wc), .ref v5, .ref v6, .ref v7])), (t, .inr (4, [.int (nI cn), .ref i1, .ref i2, .ref i3, .ref i4, .ref i5, .ref i6, .ref i7, .ref i8, .ref i9])), (i6, .inl (cJ, (ln + 1), .inr (.inl iw))), (i7, .inl (cJ, (ln + 1), .inr (.inl is_))), (i8, .inl (cJ, (ln + 1), .inr (.inl ih))), (i9, .inl (cJ, (ln + 1), .inr (.inl ij))), (k, .inr (2, [.int (nI bn), .int (nI lf), .ref j1, .ref j2, .ref j3, .ref j4, .ref j5, .ref j6, .ref j7])), (j1, .inl (cI, lk, .inl bi)), (j3, .inl (cI, lk, .inl ba)), (j4, .inl (cI, lk, .inl bb)), (j5, .inl (cI, lk, .inl bg)), (g, .inr (8, [.ref g0, .ref g1, .ref g2, .ref g3, .int (nI mc)])), (g3, .inl (cI, lm, .inl ms)), (g1, .inr (9, [.long l0, .long l1, .long l2, .long l3])), (g2, .inr (9, [.long r0, .long r1, .long r2, .long r3]))]) (va_runV (C := rr_Ft) (As := [.int (nI 0), .int (nI 2), .long (0 : Int64)]) (rest := []) ⟨hx, hb, hml, hown, hts⟩ (ct_Ft_set l D cI cJ cZ H.size f fb fc fo (nI 0) 2 (0 : Int64)) ⟨(callB_of 3 hts (kx_good kw_701) rfl rfl rfl (hts _ (kx_m kw_50)) (hts _ (kx_m kw_698)) (by decide +kernel) ⟨Nat.le_of_ble_eq_true rfl, Nat.le_of_ble_eq_true rfl⟩), (hts _ (kx_m kw_700)), (hts _ (kx_m kw_14))⟩ (kx_preV (ci := 3) (q0 := 0) hK hN (hP.sub [15] kt_16_15) (hD.sub [15] (by decide) ks_16_15) rfl kg_1_0) rfl rfl hl.1 rfl (lv_room (Nat.le_of_ble_eq_true rfl)) dd_Ft_judge_195 ⟨Nat.le_of_ble_eq_true rfl, Nat.le_of_ble_eq_true rfl⟩) hP hD hS hA [15] [0, 1, 2, 3, 4, 5, 6, 7, 8, 9, 10, 11, 12, 13, 14] ks_16_15 ks_16_0_1_2_3_4_5_6_7_8_9_10_11_12_13_14 (by decide) (by decide) (fun u195 H locs hw195 hP hD hS => ?_)
      have hP : va_P D vwCl [(h, .inr (7, [.ref g, .ref t, .ref k, .ref f, .ref v1, .ref v2, .ref v3, .ref v4, .int (nI ps), .int (nI ly), .int op, .int (nI pl), .int (nI wl), .int (nI wc), .ref v5, .ref v6, .ref v7])), (t, .inr (4, [.int (nI cn), .ref i1, .ref i2, .ref i3, .ref i4, .ref i5, .ref i6, .ref i7, .ref i8, .ref i9])), (i6, .inl (cJ, (ln + 1), .inr (.inl iw))), (i7, .inl (cJ, (ln + 1), .inr (.inl is_))), (i8, .inl (cJ, (ln + 1), .inr (.inl ih))), (i9, .inl (cJ, (ln + 1), .inr (.inl ij))), (k, .inr (2, [.int (nI bn), .int (nI lf), .ref j1, .ref j2, .ref j3, .ref j4, .ref j5, .ref j6, .ref j7])), (j1, .inl (cI, lk, .inl bi)), (j3, .inl (cI, lk, .inl ba)), (j4, .inl (cI, lk, .inl bb)), (j5, .inl (cI, lk, .inl bg)), (g, .inr (8, [.ref g0, .ref g1, .ref g2, .ref g3, .int (nI mc)])), (g3, .inl (cI, lm, .inl ms)), (g1, .inr (9, [.long l0, .long l1, .long l2, .long l3])), (g2, .inr (9, [.long r0, .long r1, .long r2, .long r3])), (f, .inr (3, [.int (nI 0), .int (nI 2), .long (0 : Int64)]))] H := hP
      have hD : va_D A [(h, .inr (7, [.ref g, .ref t, .ref k, .ref f, .ref v1, .ref v2, .ref v3, .ref v4, .int (nI ps), .int (nI ly), .int op, .int (nI pl), .int (nI wl), .int (nI wc), .ref v5, .ref v6, .ref v7])), (t, .inr (4, [.int (nI cn), .ref i1, .ref i2, .ref i3, .ref i4, .ref i5, .ref i6, .ref i7, .ref i8, .ref i9])), (i6, .inl (cJ, (ln + 1), .inr (.inl iw))), (i7, .inl (cJ, (ln + 1), .inr (.inl is_))), (i8, .inl (cJ, (ln + 1), .inr (.inl ih))), (i9, .inl (cJ, (ln + 1), .inr (.inl ij))), (k, .inr (2, [.int (nI bn), .int (nI lf), .ref j1, .ref j2, .ref j3, .ref j4, .ref j5, .ref j6, .ref j7])), (j1, .inl (cI, lk, .inl bi)), (j3, .inl (cI, lk, .inl ba)), (j4, .inl (cI, lk, .inl bb)), (j5, .inl (cI, lk, .inl bg)), (g, .inr (8, [.ref g0, .ref g1, .ref g2, .ref g3, .int (nI mc)])), (g3, .inl (cI, lm, .inl ms)), (g1, .inr (9, [.long l0, .long l1, .long l2, .long l3])), (g2, .inr (9, [.long r0, .long r1, .long r2, .long r3])), (f, .inr (3, [.int (nI 0), .int (nI 2), .long (0 : Int64)]))] := hD
      refine lv_goto (tgt := 236) hx hb dd_Ft_judge_198 (by decide) ?_
      rw [hQ]
      exact kx_vret hx hb hr hlocks hK hN hS dd_Ft_judge_236 (nI 0, 2, (0 : Int64)) hP hD (by first | (have h0 : ((ms (max 1 (min n mc) - 1)).toInt64 - (iw t1 - iw (min t2 t1) + l0 + r0 + (ba y).toInt64 + (bb x).toInt64)) < 0 := Int64.not_le.mp c115; unfold pm_lb pm_lc pm_lo; rw [if_pos h0, if_pos h0, if_pos h0]; exact hw151) | (have h0 : ¬ ((ms (max 1 (min n mc) - 1)).toInt64 - (iw t1 - iw (min t2 t1) + l0 + r0 + (ba y).toInt64 + (bb x).toInt64)) < 0 := Int64.not_lt.mpr c115; unfold pm_lb pm_lc pm_lo; rw [if_neg h0, if_neg h0, if_neg h0, if_neg c188]; exact ⟨rfl, rfl, rfl⟩) | (have h0 : ¬ ((ms (max 1 (min n mc) - 1)).toInt64 - (iw t1 - iw (min t2 t1) + l0 + r0 + (ba y).toInt64 + (bb x).toInt64)) < 0 := Int64.not_lt.mpr c115; unfold pm_lb pm_lc pm_lo; rw [if_neg h0, if_neg h0, if_neg h0, if_pos c188]; exact ⟨rfl, rfl, rfl⟩))
  · skip
    have c115 : ¬ ((0 : Int64) ≤ (((ms (max 1 (min n mc) - 1)).toInt64) - ((((((iw t1) - (iw (min t2 t1))) + l0) + r0) + ((ba y).toInt64)) + ((bb x).toInt64)))) := fun h => c115 ((lg_cmp_ge _ _).mpr h)
    refine lv_aload_n hx hb dd_Ft_judge_118 rfl (lv_at hl 8 rfl) ?_
    refine lv_lload hx hb dd_Ft_judge_119 (lv_at hl 0 rfl) ?_
    refine lv_lneg hx hb dd_Ft_judge_121 ?_
    refine lv_aload hx hb dd_Ft_judge_122 (lv_at hl 7 rfl) ?_
    refine va_get (D := D) (ci := 4) (v := .ref i9) (C := rr_It) (T := tt_It) (N := 10) hx hb hts hin4 hown hK hP 1 kg_16_1 rfl 9 (by decide) lk19 (fun _ h9 => h9) rfl dd_Ft_judge_124 ?_
    refine lv_iload hx hb dd_Ft_judge_127 (lv_at hl 2 rfl) ?_
    refine kx_lald (q0 := 5) (t0 := 1) hx hb dd_Ft_judge_129 hK hP kg_16_5 rfl (by omega) (by omega) ?_
    refine lv_aload hx hb dd_Ft_judge_130 (lv_at hl 7 rfl) ?_
    refine va_get (D := D) (ci := 4) (v := .ref i9) (C := rr_It) (T := tt_It) (N := 10) hx hb hts hin4 hown hK hP 1 kg_16_1 rfl 9 (by decide) lk19 (fun _ h9 => h9) rfl dd_Ft_judge_132 ?_
    refine lv_iload hx hb dd_Ft_judge_135 (lv_at hl 3 rfl) ?_
    refine kx_lald (q0 := 5) (t0 := 1) hx hb dd_Ft_judge_137 hK hP kg_16_5 rfl (by omega) (by omega) ?_
    refine lv_lsub hx hb dd_Ft_judge_138 ?_
    refine lv_aload hx hb dd_Ft_judge_139 (lv_at hl 5 rfl) ?_
    refine va_get (D := D) (ci := 9) (v := .long l3) (C := rr_Sp) (T := tt_Sp) (N := 4) hx hb hts hin9 hown hK hP 13 kg_16_13 rfl 3 (by decide) lk20 (fun _ h9 => h9) rfl dd_Ft_judge_141 ?_
    refine lv_ladd hx hb dd_Ft_judge_144 ?_
    refine lv_aload hx hb dd_Ft_judge_145 (lv_at hl 4 rfl) ?_
    refine va_get (D := D) (ci := 9) (v := .long r3) (C := rr_Sp) (T := tt_Sp) (N := 4) hx hb hts hin9 hown hK hP 14 kg_16_14 rfl 3 (by decide) lk20 (fun _ h9 => h9) rfl dd_Ft_judge_147 ?_
    refine lv_ladd hx hb dd_Ft_judge_150 ?_
    refine kx_callv (wr := [(h, .inr (7, [.ref g, .ref t, .ref k, .ref f, .ref v1, .ref v2, .ref v3, .ref v4, .int (nI ps), .int (nI ly), .int op, .int (nI pl), .int (nI wl), .int (nI wc), .ref v5, .ref v6, .ref v7])), (t, .inr (4, [.int (nI cn), .ref i1, .ref i2, .ref i3, .ref i4, .ref i5, .ref i6, .ref i7, .ref i8, .ref i9])), (i6, .inl (cJ, (ln + 1), .inr (.inl iw))), (i7, .inl (cJ, (ln + 1), .inr (.inl is_))), (i8, .inl (cJ, (ln + 1), .inr (.inl ih))), (i9, .inl (cJ, (ln + 1), .inr (.inl ij))), (k, .inr (2, [.int (nI bn), .int (nI lf), .ref j1, .ref j2, .ref j3, .ref j4, .ref j5, .ref j6, .ref j7])), (j1, .inl (cI, lk, .inl bi)), (j3, .inl (cI, lk, .inl ba)), (j4, .inl (cI, lk, .inl bb)), (j5, .inl (cI, lk, .inl bg)), (g, .inr (8, [.ref g0, .ref g1, .ref g2, .ref g3, .int (nI mc)])), (g3, .inl (cI, lm, .inl ms)), (g1, .inr (9, [.long l0, .long l1, .long l2, .long l3])), (g2, .inr (9, [.long r0, .long r1, .long r2, .long r3]))]) (va_runV (C := rr_Ft) (As := [.long (-(((ms (max 1 (min n mc) - 1)).toInt64) - ((((((iw t1) - (iw (min t2 t1))) + l0) + r0) + ((ba y).toInt64)) + ((bb x).toInt64)))), .long ((((ij t1) - (ij (min t2 t1))) + l3) + r3)]) (rest := []) ⟨hx, hb, hml, hown, hts⟩ (ct_Ft_shrinkBy l D cI cJ cZ H.size f fb fc fo (-(((ms (max 1 (min n mc) - 1)).toInt64) - ((((((iw t1) - (iw (min t2 t1))) + l0) + r0) + ((ba y).toInt64)) + ((bb x).toInt64)))) ((((ij t1) - (ij (min t2 t1))) + l3) + r3)) ⟨(callB_of 2 hts (kx_good kw_697) rfl rfl rfl (hts _ (kx_m kw_50)) (hts _ (kx_m kw_694)) (by decide +kernel) ⟨Nat.le_of_ble_eq_true rfl, Nat.le_of_ble_eq_true rfl⟩), (hts _ (kx_m kw_696)), (hts _ (kx_m kw_13))⟩ (kx_preV (ci := 3) (q0 := 0) hK hN (hP.sub [15] kt_16_15) (hD.sub [15] (by decide) ks_16_15) rfl kg_1_0) rfl rfl hl.1 rfl (lv_room (Nat.le_of_ble_eq_true rfl)) dd_Ft_judge_151 ⟨Nat.le_of_ble_eq_true rfl, Nat.le_of_ble_eq_true rfl⟩) hP hD hS hA [15] [0, 1, 2, 3, 4, 5, 6, 7, 8, 9, 10, 11, 12, 13, 14] ks_16_15 ks_16_0_1_2_3_4_5_6_7_8_9_10_11_12_13_14 (by decide) (by decide) (fun u151 H locs hw151 hP hD hS => ?_)
    obtain ⟨b2_151, c2_151, o2_151⟩ := u151
    have hP : va_P D vwCl [(h, .inr (7, [.ref g, .ref t, .ref k, .ref f, .ref v1, .ref v2, .ref v3, .ref v4, .int (nI ps), .int (nI ly), .int op, .int (nI pl), .int (nI wl), .int (nI wc), .ref v5, .ref v6, .ref v7])), (t, .inr (4, [.int (nI cn), .ref i1, .ref i2, .ref i3, .ref i4, .ref i5, .ref i6, .ref i7, .ref i8, .ref i9])), (i6, .inl (cJ, (ln + 1), .inr (.inl iw))), (i7, .inl (cJ, (ln + 1), .inr (.inl is_))), (i8, .inl (cJ, (ln + 1), .inr (.inl ih))), (i9, .inl (cJ, (ln + 1), .inr (.inl ij))), (k, .inr (2, [.int (nI bn), .int (nI lf), .ref j1, .ref j2, .ref j3, .ref j4, .ref j5, .ref j6, .ref j7])), (j1, .inl (cI, lk, .inl bi)), (j3, .inl (cI, lk, .inl ba)), (j4, .inl (cI, lk, .inl bb)), (j5, .inl (cI, lk, .inl bg)), (g, .inr (8, [.ref g0, .ref g1, .ref g2, .ref g3, .int (nI mc)])), (g3, .inl (cI, lm, .inl ms)), (g1, .inr (9, [.long l0, .long l1, .long l2, .long l3])), (g2, .inr (9, [.long r0, .long r1, .long r2, .long r3])), (f, .inr (3, [.int b2_151, .int (nI c2_151), .long o2_151]))] H := hP
    have hD : va_D A [(h, .inr (7, [.ref g, .ref t, .ref k, .ref f, .ref v1, .ref v2, .ref v3, .ref v4, .int (nI ps), .int (nI ly), .int op, .int (nI pl), .int (nI wl), .int (nI wc), .ref v5, .ref v6, .ref v7])), (t, .inr (4, [.int (nI cn), .ref i1, .ref i2, .ref i3, .ref i4, .ref i5, .ref i6, .ref i7, .ref i8, .ref i9])), (i6, .inl (cJ, (ln + 1), .inr (.inl iw))), (i7, .inl (cJ, (ln + 1), .inr (.inl is_))), (i8, .inl (cJ, (ln + 1), .inr (.inl ih))), (i9, .inl (cJ, (ln + 1), .inr (.inl ij))), (k, .inr (2, [.int (nI bn), .int (nI lf), .ref j1, .ref j2, .ref j3, .ref j4, .ref j5, .ref j6, .ref j7])), (j1, .inl (cI, lk, .inl bi)), (j3, .inl (cI, lk, .inl ba)), (j4, .inl (cI, lk, .inl bb)), (j5, .inl (cI, lk, .inl bg)), (g, .inr (8, [.ref g0, .ref g1, .ref g2, .ref g3, .int (nI mc)])), (g3, .inl (cI, lm, .inl ms)), (g1, .inr (9, [.long l0, .long l1, .long l2, .long l3])), (g2, .inr (9, [.long r0, .long r1, .long r2, .long r3])), (f, .inr (3, [.int b2_151, .int (nI c2_151), .long o2_151]))] := hD
    have hw151 : b2_151 = (if (-(((ms (max 1 (min n mc) - 1)).toInt64) - ((((((iw t1) - (iw (min t2 t1))) + l0) + r0) + ((ba y).toInt64)) + ((bb x).toInt64)))) ≤ ((((ij t1) - (ij (min t2 t1))) + l3) + r3) then pm_bad (-(((ms (max 1 (min n mc) - 1)).toInt64) - ((((((iw t1) - (iw (min t2 t1))) + l0) + r0) + ((ba y).toInt64)) + ((bb x).toInt64)))) ((((ij t1) - (ij (min t2 t1))) + l3) + r3) else nI 10000) ∧ c2_151 = (if (-(((ms (max 1 (min n mc) - 1)).toInt64) - ((((((iw t1) - (iw (min t2 t1))) + l0) + r0) + ((ba y).toInt64)) + ((bb x).toInt64)))) ≤ ((((ij t1) - (ij (min t2 t1))) + l3) + r3) then pm_c2 (pm_bad (-(((ms (max 1 (min n mc) - 1)).toInt64) - ((((((iw t1) - (iw (min t2 t1))) + l0) + r0) + ((ba y).toInt64)) + ((bb x).toInt64)))) ((((ij t1) - (ij (min t2 t1))) + l3) + r3)) else 3) ∧ o2_151 = (if (-(((ms (max 1 (min n mc) - 1)).toInt64) - ((((((iw t1) - (iw (min t2 t1))) + l0) + r0) + ((ba y).toInt64)) + ((bb x).toInt64)))) ≤ ((((ij t1) - (ij (min t2 t1))) + l3) + r3) then 0 else (-(((ms (max 1 (min n mc) - 1)).toInt64) - ((((((iw t1) - (iw (min t2 t1))) + l0) + r0) + ((ba y).toInt64)) + ((bb x).toInt64)))) - ((((ij t1) - (ij (min t2 t1))) + l3) + r3)) := hw151
    refine lv_goto (tgt := 236) hx hb dd_Ft_judge_154 (by decide) ?_
    rw [hQ]
    exact kx_vret hx hb hr hlocks hK hN hS dd_Ft_judge_236 (b2_151, c2_151, o2_151) hP hD (by first | (have h0 : ((ms (max 1 (min n mc) - 1)).toInt64 - (iw t1 - iw (min t2 t1) + l0 + r0 + (ba y).toInt64 + (bb x).toInt64)) < 0 := Int64.not_le.mp c115; unfold pm_lb pm_lc pm_lo; rw [if_pos h0, if_pos h0, if_pos h0]; exact hw151) | (have h0 : ¬ ((ms (max 1 (min n mc) - 1)).toInt64 - (iw t1 - iw (min t2 t1) + l0 + r0 + (ba y).toInt64 + (bb x).toInt64)) < 0 := Int64.not_lt.mpr c115; unfold pm_lb pm_lc pm_lo; rw [if_neg h0, if_neg h0, if_neg h0, if_neg c188]; exact ⟨rfl, rfl, rfl⟩) | (have h0 : ¬ ((ms (max 1 (min n mc) - 1)).toInt64 - (iw t1 - iw (min t2 t1) + l0 + r0 + (ba y).toInt64 + (bb x).toInt64)) < 0 := Int64.not_lt.mpr c115; unfold pm_lb pm_lc pm_lo; rw [if_neg h0, if_neg h0, if_neg h0, if_pos c188]; exact ⟨rfl, rfl, rfl⟩))

theorem dd_Se_extend_0 : decode bb_Se_extend 0 = .ok (.iload_n 3, 1) := by decide +kernel
theorem dd_Se_extend_1 : decode bb_Se_extend 1 = .ok (.iconst 4, 1) := by decide +kernel
theorem dd_Se_extend_2 : decode bb_Se_extend 2 = .ok (.imul, 1) := by decide +kernel
theorem dd_Se_extend_3 : decode bb_Se_extend 3 = .ok (.aload_n 0, 1) := by decide +kernel
theorem dd_Se_extend_4 : decode bb_Se_extend 4 = .ok (.getfield 29, 3) := by decide +kernel
theorem dd_Se_extend_7 : decode bb_Se_extend 7 = .ok (.getfield 180, 3) := by decide +kernel
theorem dd_Se_extend_10 : decode bb_Se_extend 10 = .ok (.iadd, 1) := by decide +kernel
theorem dd_Se_extend_11 : decode bb_Se_extend 11 = .ok (.istore 8, 2) := by decide +kernel
theorem dd_Se_extend_13 : decode bb_Se_extend 13 = .ok (.aload_n 0, 1) := by decide +kernel
theorem dd_Se_extend_14 : decode bb_Se_extend 14 = .ok (.getfield 61, 3) := by decide +kernel
theorem dd_Se_extend_17 : decode bb_Se_extend 17 = .ok (.iconst 3, 1) := by decide +kernel
theorem dd_Se_extend_18 : decode bb_Se_extend 18 = .ok (.if_icmp .ne (26), 3) := by decide +kernel
theorem dd_Se_extend_21 : decode bb_Se_extend 21 = .ok (.aload_n 0, 1) := by decide +kernel
theorem dd_Se_extend_22 : decode bb_Se_extend 22 = .ok (.getfield 29, 3) := by decide +kernel
theorem dd_Se_extend_25 : decode bb_Se_extend 25 = .ok (.getfield 177, 3) := by decide +kernel
theorem dd_Se_extend_28 : decode bb_Se_extend 28 = .ok (.aload_n 0, 1) := by decide +kernel
theorem dd_Se_extend_29 : decode bb_Se_extend 29 = .ok (.getfield 9, 3) := by decide +kernel
theorem dd_Se_extend_32 : decode bb_Se_extend 32 = .ok (.getfield 97, 3) := by decide +kernel
theorem dd_Se_extend_35 : decode bb_Se_extend 35 = .ok (.iconst 1, 1) := by decide +kernel
theorem dd_Se_extend_36 : decode bb_Se_extend 36 = .ok (.iaload, 1) := by decide +kernel
theorem dd_Se_extend_37 : decode bb_Se_extend 37 = .ok (.if_icmp .le (7), 3) := by decide +kernel
theorem dd_Se_extend_40 : decode bb_Se_extend 40 = .ok (.iconst 1, 1) := by decide +kernel
theorem dd_Se_extend_41 : decode bb_Se_extend 41 = .ok (.goto (4), 3) := by decide +kernel
theorem dd_Se_extend_44 : decode bb_Se_extend 44 = .ok (.iconst 0, 1) := by decide +kernel
theorem dd_Se_extend_45 : decode bb_Se_extend 45 = .ok (.istore 9, 2) := by decide +kernel
theorem dd_Se_extend_47 : decode bb_Se_extend 47 = .ok (.iconst 0, 1) := by decide +kernel
theorem dd_Se_extend_48 : decode bb_Se_extend 48 = .ok (.istore 10, 2) := by decide +kernel
theorem dd_Se_extend_50 : decode bb_Se_extend 50 = .ok (.iload 10, 2) := by decide +kernel
theorem dd_Se_extend_52 : decode bb_Se_extend 52 = .ok (.iconst 4, 1) := by decide +kernel
theorem dd_Se_extend_53 : decode bb_Se_extend 53 = .ok (.if_icmp .ge (113), 3) := by decide +kernel
theorem dd_Se_extend_56 : decode bb_Se_extend 56 = .ok (.iload_n 2, 1) := by decide +kernel
theorem dd_Se_extend_57 : decode bb_Se_extend 57 = .ok (.iconst 4, 1) := by decide +kernel
theorem dd_Se_extend_58 : decode bb_Se_extend 58 = .ok (.imul, 1) := by decide +kernel
theorem dd_Se_extend_59 : decode bb_Se_extend 59 = .ok (.iload 10, 2) := by decide +kernel
theorem dd_Se_extend_61 : decode bb_Se_extend 61 = .ok (.iadd, 1) := by decide +kernel
theorem dd_Se_extend_62 : decode bb_Se_extend 62 = .ok (.istore 11, 2) := by decide +kernel
theorem dd_Se_extend_64 : decode bb_Se_extend 64 = .ok (.aload_n 1, 1) := by decide +kernel
theorem dd_Se_extend_65 : decode bb_Se_extend 65 = .ok (.iload 11, 2) := by decide +kernel
theorem dd_Se_extend_67 : decode bb_Se_extend 67 = .ok (.invokevirtual 183, 3) := by decide +kernel
theorem dd_Se_extend_70 : decode bb_Se_extend 70 = .ok (.ifCond .eq (90), 3) := by decide +kernel
theorem dd_Se_extend_73 : decode bb_Se_extend 73 = .ok (.aload_n 0, 1) := by decide +kernel
theorem dd_Se_extend_74 : decode bb_Se_extend 74 = .ok (.getfield 48, 3) := by decide +kernel
theorem dd_Se_extend_77 : decode bb_Se_extend 77 = .ok (.iload 8, 2) := by decide +kernel
theorem dd_Se_extend_79 : decode bb_Se_extend 79 = .ok (.aload_n 1, 1) := by decide +kernel
theorem dd_Se_extend_80 : decode bb_Se_extend 80 = .ok (.getfield 186, 3) := by decide +kernel
theorem dd_Se_extend_83 : decode bb_Se_extend 83 = .ok (.iload 11, 2) := by decide +kernel
theorem dd_Se_extend_85 : decode bb_Se_extend 85 = .ok (.laload, 1) := by decide +kernel
theorem dd_Se_extend_86 : decode bb_Se_extend 86 = .ok (.aload_n 0, 1) := by decide +kernel
theorem dd_Se_extend_87 : decode bb_Se_extend 87 = .ok (.getfield 29, 3) := by decide +kernel
theorem dd_Se_extend_90 : decode bb_Se_extend 90 = .ok (.getfield 173, 3) := by decide +kernel
theorem dd_Se_extend_93 : decode bb_Se_extend 93 = .ok (.ladd, 1) := by decide +kernel
theorem dd_Se_extend_94 : decode bb_Se_extend 94 = .ok (.aload_n 1, 1) := by decide +kernel
theorem dd_Se_extend_95 : decode bb_Se_extend 95 = .ok (.getfield 189, 3) := by decide +kernel
theorem dd_Se_extend_98 : decode bb_Se_extend 98 = .ok (.iload 11, 2) := by decide +kernel
theorem dd_Se_extend_100 : decode bb_Se_extend 100 = .ok (.iaload, 1) := by decide +kernel
theorem dd_Se_extend_101 : decode bb_Se_extend 101 = .ok (.iload 9, 2) := by decide +kernel
theorem dd_Se_extend_103 : decode bb_Se_extend 103 = .ok (.iadd, 1) := by decide +kernel
theorem dd_Se_extend_104 : decode bb_Se_extend 104 = .ok (.aload_n 1, 1) := by decide +kernel
theorem dd_Se_extend_105 : decode bb_Se_extend 105 = .ok (.getfield 192, 3) := by decide +kernel
theorem dd_Se_extend_108 : decode bb_Se_extend 108 = .ok (.iload 11, 2) := by decide +kernel
theorem dd_Se_extend_110 : decode bb_Se_extend 110 = .ok (.laload, 1) := by decide +kernel
theorem dd_Se_extend_111 : decode bb_Se_extend 111 = .ok (.lload 5, 2) := by decide +kernel
theorem dd_Se_extend_113 : decode bb_Se_extend 113 = .ok (.ladd, 1) := by decide +kernel
theorem dd_Se_extend_114 : decode bb_Se_extend 114 = .ok (.aload_n 0, 1) := by decide +kernel
theorem dd_Se_extend_115 : decode bb_Se_extend 115 = .ok (.iload 10, 2) := by decide +kernel
theorem dd_Se_extend_117 : decode bb_Se_extend 117 = .ok (.invokevirtual 195, 3) := by decide +kernel
theorem dd_Se_extend_120 : decode bb_Se_extend 120 = .ok (.ladd, 1) := by decide +kernel
theorem dd_Se_extend_121 : decode bb_Se_extend 121 = .ok (.aload_n 1, 1) := by decide +kernel
theorem dd_Se_extend_122 : decode bb_Se_extend 122 = .ok (.getfield 91, 3) := by decide +kernel
theorem dd_Se_extend_125 : decode bb_Se_extend 125 = .ok (.iload 11, 2) := by decide +kernel
theorem dd_Se_extend_127 : decode bb_Se_extend 127 = .ok (.iaload, 1) := by decide +kernel
theorem dd_Se_extend_128 : decode bb_Se_extend 128 = .ok (.iconst 1, 1) := by decide +kernel
theorem dd_Se_extend_129 : decode bb_Se_extend 129 = .ok (.iadd, 1) := by decide +kernel
theorem dd_Se_extend_130 : decode bb_Se_extend 130 = .ok (.invokevirtual 118, 3) := by decide +kernel
theorem dd_Se_extend_133 : decode bb_Se_extend 133 = .ok (.ifCond .eq (27), 3) := by decide +kernel
theorem dd_Se_extend_136 : decode bb_Se_extend 136 = .ok (.aload_n 0, 1) := by decide +kernel
theorem dd_Se_extend_137 : decode bb_Se_extend 137 = .ok (.getfield 58, 3) := by decide +kernel
theorem dd_Se_extend_140 : decode bb_Se_extend 140 = .ok (.iload 4, 2) := by decide +kernel
theorem dd_Se_extend_142 : decode bb_Se_extend 142 = .ok (.iconst 1, 1) := by decide +kernel
theorem dd_Se_extend_143 : decode bb_Se_extend 143 = .ok (.isub, 1) := by decide +kernel
theorem dd_Se_extend_144 : decode bb_Se_extend 144 = .ok (.aload_n 0, 1) := by decide +kernel
theorem dd_Se_extend_145 : decode bb_Se_extend 145 = .ok (.getfield 128, 3) := by decide +kernel
theorem dd_Se_extend_148 : decode bb_Se_extend 148 = .ok (.imul, 1) := by decide +kernel
theorem dd_Se_extend_149 : decode bb_Se_extend 149 = .ok (.iload 8, 2) := by decide +kernel
theorem dd_Se_extend_151 : decode bb_Se_extend 151 = .ok (.iadd, 1) := by decide +kernel
theorem dd_Se_extend_152 : decode bb_Se_extend 152 = .ok (.iconst 2, 1) := by decide +kernel
theorem dd_Se_extend_153 : decode bb_Se_extend 153 = .ok (.iload 11, 2) := by decide +kernel
theorem dd_Se_extend_155 : decode bb_Se_extend 155 = .ok (.imul, 1) := by decide +kernel
theorem dd_Se_extend_156 : decode bb_Se_extend 156 = .ok (.iload 7, 2) := by decide +kernel
theorem dd_Se_extend_158 : decode bb_Se_extend 158 = .ok (.iadd, 1) := by decide +kernel
theorem dd_Se_extend_159 : decode bb_Se_extend 159 = .ok (.iastore, 1) := by decide +kernel
theorem dd_Se_extend_160 : decode bb_Se_extend 160 = .ok (.iinc 10 (1), 3) := by decide +kernel
theorem dd_Se_extend_163 : decode bb_Se_extend 163 = .ok (.goto (-113), 3) := by decide +kernel
theorem dd_Se_extend_166 : decode bb_Se_extend 166 = .ok (.return_, 1) := by decide +kernel

set_option maxHeartbeats 4000000 in
set_option maxRecDepth 100000 in
theorem ct_Se_extend_b (l : Launch) (D : va_G) (cI cJ cZ : ClassId) (sz : Nat) (h : Nat) (t : Nat) (v1 : Nat) (v2 : Nat) (v3 : Nat) (v4 : Nat) (v5 : Nat) (v6 : Nat) (v7 : Nat) (ps : Nat) (ly : Nat) (op : Int32) (pl : Nat) (wl : Nat) (wc : Nat) (k : Nat) (g : Nat) (g0 : Nat) (g1 : Nat) (g2 : Nat) (g3 : Nat) (mc : Nat) (ru : Nat → Int32) (f : Nat) (fb : Int32) (fc : Nat) (fo : Int64) (qb0 : Nat) (qb1 : Nat) (qb2 : Nat) (qb3 : Nat) (zb : Nat) (anb : Int32) (rob : Nat → Int64) (rvb : Nat → Int32) (rdb : Nat → Int64) (rcb : Nat → Int32) (qn0 : Nat) (qn1 : Nat) (qn2 : Nat) (qn3 : Nat) (zn : Nat) (ann : Int32) (ron : Nat → Int64) (rvn : Nat → Int32) (rdn : Nat → Int64) (rcn : Nat → Int32) (lw : Nat) (bk : Nat → Int32) (x : Nat) (y : Nat) (n : Nat) (dm : Int64) (sm : Nat) (Pr : Nat → Option ke_K) (KK : Nat → Option ke_K) (hxy : x < y) (hy1 : y * 4 + 3 < zn) (hzn : zn < 2 ^ 20) (hyp : y * 4 + 3 < pl) (hpl : pl < 2 ^ 20) (hn1 : 1 ≤ n) (hw9 : (n - 1) * pl + (y * 4 + 3) < lw) (hlw : lw < 2 ^ 30) (hfc : fc < 4) (hsm : sm < 2) (hps3 : ps ≤ 3) (hx1 : x * 4 + 3 < zb) (hzb : zb < 2 ^ 20) (hPr : ∀ c9, c9 < 4 → kv_ rob rvb rdb rcb (x * 4 + c9) (Pr c9)) (hPn : ∀ c9, c9 < 4 → ∀ z, Pr c9 = some z → z.2 ≤ 999) (hKK : ∀ c9, c9 < 4 → KK (8 * x + 4 * sm + c9) = (Pr c9).map (ke_st fo (pk_ov ps fb (ru 1)) dm (if pm_adj fc c9 then (ru 5).toInt64 else 0))) (hat : ke_at KK (8 * x + 4 * sm) (y * 4 + fc) ((n - 1) * pl + (y * 4 + fc)) ron rvn rdn rcn bk) (hka : ka_ pl ann rcn) : kx_Mv l yy_Se_extend ww_Se_extend ({ frames := 2, cells := 0, slots := 0, locals := 54 }) D vwCl (kx_ty cI cJ cZ) [.ref h, .ref v3, .int (nI x), .int (nI y), .int (nI n), .long dm, .int (nI sm)] [(h, .inr (7, [.ref g, .ref t, .ref k, .ref f, .ref v1, .ref v2, .ref v3, .ref v4, .int (nI ps), .int (nI ly), .int op, .int (nI pl), .int (nI wl), .int (nI wc), .ref v5, .ref v6, .ref v7])), (g, .inr (8, [.ref g0, .ref g1, .ref g2, .ref g3, .int (nI mc)])), (g0, .inl (cI, 9, .inl ru)), (f, .inr (3, [.int fb, .int (nI fc), .long fo])), (v3, .inr (6, [.int anb, .ref qb0, .ref qb1, .ref qb2, .ref qb3])), (qb0, .inl (cJ, zb, .inr (.inl rob))), (qb1, .inl (cI, zb, .inl rvb)), (qb2, .inl (cJ, zb, .inr (.inl rdb))), (qb3, .inl (cI, zb, .inl rcb)), (v4, .inr (6, [.int ann, .ref qn0, .ref qn1, .ref qn2, .ref qn3])), (qn0, .inl (cJ, zn, .inr (.inl ron))), (qn1, .inl (cI, zn, .inl rvn)), (qn2, .inl (cJ, zn, .inr (.inl rdn))), (qn3, .inl (cI, zn, .inl rcn)), (v7, .inl (cI, lw, .inl bk))] sz (fun (u : Int32 × (Nat → Int64) × (Nat → Int32) × (Nat → Int64) × (Nat → Int32) × (Nat → Int32)) => ke_at KK (8 * x + 4 * sm + 4) (y * 4 + fc) ((n - 1) * pl + (y * 4 + fc)) u.2.1 u.2.2.1 u.2.2.2.1 u.2.2.2.2.1 u.2.2.2.2.2 ∧ kf_ (y * 4 + fc) ron rvn rdn rcn u.2.1 u.2.2.1 u.2.2.2.1 u.2.2.2.2.1 ∧ (∀ q, ¬ q = (n - 1) * pl + (y * 4 + fc) → u.2.2.2.2.2 q = bk q) ∧ ka_ pl u.1 u.2.2.2.2.1) (fun (u : Int32 × (Nat → Int64) × (Nat → Int32) × (Nat → Int64) × (Nat → Int32) × (Nat → Int32)) => [(h, .inr (7, [.ref g, .ref t, .ref k, .ref f, .ref v1, .ref v2, .ref v3, .ref v4, .int (nI ps), .int (nI ly), .int op, .int (nI pl), .int (nI wl), .int (nI wc), .ref v5, .ref v6, .ref v7])), (g, .inr (8, [.ref g0, .ref g1, .ref g2, .ref g3, .int (nI mc)])), (g0, .inl (cI, 9, .inl ru)), (f, .inr (3, [.int fb, .int (nI fc), .long fo])), (v3, .inr (6, [.int anb, .ref qb0, .ref qb1, .ref qb2, .ref qb3])), (qb0, .inl (cJ, zb, .inr (.inl rob))), (qb1, .inl (cI, zb, .inl rvb)), (qb2, .inl (cJ, zb, .inr (.inl rdb))), (qb3, .inl (cI, zb, .inl rcb)), (v4, .inr (6, [.int u.1, .ref qn0, .ref qn1, .ref qn2, .ref qn3])), (qn0, .inl (cJ, zn, .inr (.inl u.2.1))), (qn1, .inl (cI, zn, .inl u.2.2.1)), (qn2, .inl (cJ, zn, .inr (.inl u.2.2.2.1))), (qn3, .inl (cI, zn, .inl u.2.2.2.2.1)), (v7, .inl (cI, lw, .inl u.2.2.2.2.2))]) 0 0 := by
  refine kx_startv (by decide) rfl (Nat.le_of_ble_eq_true rfl) ?_
  intro p e s m below meth c A ls hx hb hr hml hts hown hlocks hin hP hK hN hD hA hS hl
  have hl : lv_has ls 12 [(0, .ref h), (1, .ref v3), (2, .int (nI x)), (3, .int (nI y)), (4, .int (nI n)), (5, .long dm), (7, .int (nI sm))] := hl
  have hown : s.vm.findClass rr_Se = some m.cls := hown
  have lk0 := hts _ (kx_m kw_284)
  have hin7 : ∀ w ∈ u_ws rr_Se tt_Se 17, w ∈ ww_Se_extend := fun w h => kx_m (kf_Se w h)
  have lk2 := hts _ (kx_m kw_236)
  have hin3 : ∀ w ∈ u_ws rr_Ft tt_Ft 3, w ∈ ww_Se_extend := fun w h => kx_m (kf_Ft w h)
  have lk4 := hts _ (kx_m kw_289)
  have lk5 := hts _ (kx_m kw_233)
  have lk6 := hts _ (kx_m kw_278)
  have lk7 := hts _ (kx_m kw_102)
  have hin8 : ∀ w ∈ u_ws rr_Sg tt_Sg 5, w ∈ ww_Se_extend := fun w h => kx_m (kf_Sg w h)
  have lk9 := hts _ (kx_m kw_288)
  have lk10 := hts _ (kx_m kw_260)
  have hin6 : ∀ w ∈ u_ws rr_Rw tt_Rw 5, w ∈ ww_Se_extend := fun w h => kx_m (kf_Rw w h)
  have lk12 := hts _ (kx_m kw_239)
  have lk13 := hts _ (kx_m kw_262)
  have lk14 := hts _ (kx_m kw_264)
  have lk15 := hts _ (kx_m kw_266)
  have lk16 := hts _ (kx_m kw_297)
  have lk17 := hts _ (kx_m kw_292)
  obtain ⟨H, hH⟩ : ∃ H, H = s.heap := ⟨_, rfl⟩
  obtain ⟨locs, hlocs⟩ : ∃ z : List Loc, z = [] := ⟨_, rfl⟩
  have hP : va_P D vwCl [(h, .inr (7, [.ref g, .ref t, .ref k, .ref f, .ref v1, .ref v2, .ref v3, .ref v4, .int (nI ps), .int (nI ly), .int op, .int (nI pl), .int (nI wl), .int (nI wc), .ref v5, .ref v6, .ref v7])), (g, .inr (8, [.ref g0, .ref g1, .ref g2, .ref g3, .int (nI mc)])), (g0, .inl (cI, 9, .inl ru)), (f, .inr (3, [.int fb, .int (nI fc), .long fo])), (v3, .inr (6, [.int anb, .ref qb0, .ref qb1, .ref qb2, .ref qb3])), (qb0, .inl (cJ, zb, .inr (.inl rob))), (qb1, .inl (cI, zb, .inl rvb)), (qb2, .inl (cJ, zb, .inr (.inl rdb))), (qb3, .inl (cI, zb, .inl rcb)), (v4, .inr (6, [.int ann, .ref qn0, .ref qn1, .ref qn2, .ref qn3])), (qn0, .inl (cJ, zn, .inr (.inl ron))), (qn1, .inl (cI, zn, .inl rvn)), (qn2, .inl (cJ, zn, .inr (.inl rdn))), (qn3, .inl (cI, zn, .inl rcn)), (v7, .inl (cI, lw, .inl bk))] H := by rw [hH]; exact hP
  have hS : va_S A s.heap H locs := by rw [hH, hlocs]; exact hS
  refine kx_gen hH hlocs ?_
  clear hH hlocs
  refine kx_nameQ (fun Q hQ => ?_)
  refine lv_iload_n hx hb dd_Se_extend_0 rfl (lv_at hl 3 rfl) ?_
  refine lv_iconst (v := nI 4) hx hb dd_Se_extend_1 (by decide) ?_
  refine kx_imul hx hb dd_Se_extend_2 ?_
  refine lv_aload_n hx hb dd_Se_extend_3 rfl (lv_at hl 0 rfl) ?_
  refine va_get (D := D) (ci := 7) (v := .ref f) (C := rr_Se) (T := tt_Se) (N := 17) hx hb hts hin7 hown hK hP 0 kg_15_0 rfl 3 (by decide) lk0 (fun _ h9 => h9) rfl dd_Se_extend_4 ?_
  refine va_get (D := D) (ci := 3) (v := .int (nI fc)) (C := rr_Ft) (T := tt_Ft) (N := 3) hx hb hts hin3 hown hK hP 3 kg_15_3 rfl 1 (by decide) lk2 (fun _ h9 => h9) rfl dd_Se_extend_7 ?_
  refine kx_iadd hx hb dd_Se_extend_10 ?_
  refine lv_istore (lv' := [(8, .int (nI ((y * 4) + fc))), (0, .ref h), (1, .ref v3), (2, .int (nI x)), (3, .int (nI y)), (4, .int (nI n)), (5, .long dm), (7, .int (nI sm))]) hx hb dd_Se_extend_11 hl (by decide) rfl (fun ls hl => ?_)
  refine lv_aload_n hx hb dd_Se_extend_13 rfl (lv_at hl 1 rfl) ?_
  refine va_get (D := D) (ci := 7) (v := .int (nI ps)) (C := rr_Se) (T := tt_Se) (N := 17) hx hb hts hin7 hown hK hP 0 kg_15_0 rfl 8 (by decide) lk4 (fun _ h9 => h9) rfl dd_Se_extend_14 ?_
  refine lv_iconst (v := nI 3) hx hb dd_Se_extend_17 (by decide) ?_
  refine kx_joini (D := D) (cl := vwCl) (A := A) (ws := [(h, .inr (7, [.ref g, .ref t, .ref k, .ref f, .ref v1, .ref v2, .ref v3, .ref v4, .int (nI ps), .int (nI ly), .int op, .int (nI pl), .int (nI wl), .int (nI wc), .ref v5, .ref v6, .ref v7])), (g, .inr (8, [.ref g0, .ref g1, .ref g2, .ref g3, .int (nI mc)])), (g0, .inl (cI, 9, .inl ru)), (f, .inr (3, [.int fb, .int (nI fc), .long fo])), (v3, .inr (6, [.int anb, .ref qb0, .ref qb1, .ref qb2, .ref qb3])), (qb0, .inl (cJ, zb, .inr (.inl rob))), (qb1, .inl (cI, zb, .inl rvb)), (qb2, .inl (cJ, zb, .inr (.inl rdb))), (qb3, .inl (cI, zb, .inl rcb)), (v4, .inr (6, [.int ann, .ref qn0, .ref qn1, .ref qn2, .ref qn3])), (qn0, .inl (cJ, zn, .inr (.inl ron))), (qn1, .inl (cI, zn, .inl rvn)), (qn2, .inl (cJ, zn, .inr (.inl rdn))), (qn3, .inl (cI, zn, .inl rcn)), (v7, .inl (cI, lw, .inl bk))]) (Y := 45) (ls1 := ls) (st1 := []) (if ps = 3 then (if fb ≤ (ru 1) then (nI 0) else (nI 1)) else (nI 0)) (fun v45 H locs e_v45 hP hD hS => ?_) (fun K45 => ?_)
  · skip
    obtain rfl : v45 = nI (pk_ov ps fb (ru 1)) := by rw [e_v45]; unfold pk_ov pm_ab; (repeat' split) <;> first | rfl | contradiction
    refine lv_istore (lv' := [(9, .int (nI (pk_ov ps fb (ru 1)))), (8, .int (nI ((y * 4) + fc))), (0, .ref h), (1, .ref v3), (2, .int (nI x)), (3, .int (nI y)), (4, .int (nI n)), (5, .long dm), (7, .int (nI sm))]) hx hb dd_Se_extend_45 hl (by decide) rfl (fun ls hl => ?_)
    refine lv_iconst (v := nI 0) hx hb dd_Se_extend_47 (by decide) ?_
    refine lv_istore (lv' := [(10, .int (nI 0)), (9, .int (nI (pk_ov ps fb (ru 1)))), (8, .int (nI ((y * 4) + fc))), (0, .ref h), (1, .ref v3), (2, .int (nI x)), (3, .int (nI y)), (4, .int (nI n)), (5, .long dm), (7, .int (nI sm))]) hx hb dd_Se_extend_48 hl (by decide) rfl (fun ls hl => ?_)
    have lp50 : ∀ (N9_50 : Nat) (cx : Nat) (an1 : Int32) (ron1 : Nat → Int64) (rvn1 : Nat → Int32) (rdn1 : Nat → Int64) (rcn1 : Nat → Int32) (bk1 : Nat → Int32), (4 - cx) < N9_50 → (cx ≤ 4) → (ke_at KK (8 * x + 4 * sm + cx) (y * 4 + fc) ((n - 1) * pl + (y * 4 + fc)) ron1 rvn1 rdn1 rcn1 bk1) → (kf_ (y * 4 + fc) ron rvn rdn rcn ron1 rvn1 rdn1 rcn1) → (∀ q, ¬ q = (n - 1) * pl + (y * 4 + fc) → bk1 q = bk q) → (ka_ pl an1 rcn1) → ∀ (H : Heap) (locs : List Loc), va_P D vwCl [(h, .inr (7, [.ref g, .ref t, .ref k, .ref f, .ref v1, .ref v2, .ref v3, .ref v4, .int (nI ps), .int (nI ly), .int op, .int (nI pl), .int (nI wl), .int (nI wc), .ref v5, .ref v6, .ref v7])), (g, .inr (8, [.ref g0, .ref g1, .ref g2, .ref g3, .int (nI mc)])), (g0, .inl (cI, 9, .inl ru)), (f, .inr (3, [.int fb, .int (nI fc), .long fo])), (v3, .inr (6, [.int anb, .ref qb0, .ref qb1, .ref qb2, .ref qb3])), (qb0, .inl (cJ, zb, .inr (.inl rob))), (qb1, .inl (cI, zb, .inl rvb)), (qb2, .inl (cJ, zb, .inr (.inl rdb))), (qb3, .inl (cI, zb, .inl rcb)), (v4, .inr (6, [.int an1, .ref qn0, .ref qn1, .ref qn2, .ref qn3])), (qn0, .inl (cJ, zn, .inr (.inl ron1))), (qn1, .inl (cI, zn, .inl rvn1)), (qn2, .inl (cJ, zn, .inr (.inl rdn1))), (qn3, .inl (cI, zn, .inl rcn1)), (v7, .inl (cI, lw, .inl bk1))] H → va_D A [(h, .inr (7, [.ref g, .ref t, .ref k, .ref f, .ref v1, .ref v2, .ref v3, .ref v4, .int (nI ps), .int (nI ly), .int op, .int (nI pl), .int (nI wl), .int (nI wc), .ref v5, .ref v6, .ref v7])), (g, .inr (8, [.ref g0, .ref g1, .ref g2, .ref g3, .int (nI mc)])), (g0, .inl (cI, 9, .inl ru)), (f, .inr (3, [.int fb, .int (nI fc), .long fo])), (v3, .inr (6, [.int anb, .ref qb0, .ref qb1, .ref qb2, .ref qb3])), (qb0, .inl (cJ, zb, .inr (.inl rob))), (qb1, .inl (cI, zb, .inl rvb)), (qb2, .inl (cJ, zb, .inr (.inl rdb))), (qb3, .inl (cI, zb, .inl rcb)), (v4, .inr (6, [.int an1, .ref qn0, .ref qn1, .ref qn2, .ref qn3])), (qn0, .inl (cJ, zn, .inr (.inl ron1))), (qn1, .inl (cI, zn, .inl rvn1)), (qn2, .inl (cJ, zn, .inr (.inl rdn1))), (qn3, .inl (cI, zn, .inl rcn1)), (v7, .inl (cI, lw, .inl bk1))] → va_S A s.heap H locs → ∀ (ls : Array Slot), lv_has ls 12 [(0, .ref h), (1, .ref v3), (2, .int (nI x)), (3, .int (nI y)), (4, .int (nI n)), (5, .long dm), (7, .int (nI sm)), (8, .int (nI (y * 4 + fc))), (9, .int (nI (pk_ov ps fb (ru 1)))), (10, .int (nI cx))] → W p l e (headSpec ww_Se_extend { frames := 2, cells := 0, slots := 0, locals := 54 }).room s m ([.ref h, .ref v3, .int (nI x), .int (nI y), .int (nI n), .long dm, .int (nI sm)] : List Value).toArray below meth c H locs 0 0 Q (F0 m 50 ls []) := by
      clear hP hD hS hl
      intro N9_50
      induction N9_50 with
      | zero => intro _ _ _ _ _ _ _ h9; exact absurd h9 (Nat.not_lt_zero _)
      | succ N9_50 ih_50 =>
        intro cx an1 ron1 rvn1 rdn1 rcn1 bk1 hμ_50 hcx hat1 hkf hkb hka1 H locs hP hD hS ls hl
        refine lv_iload hx hb dd_Se_extend_50 (lv_at hl 9 rfl) ?_
        refine lv_iconst (v := nI 4) hx hb dd_Se_extend_52 (by decide) ?_
        refine lv_icmp_ge (tgt := 166) hx hb dd_Se_extend_53 (by decide) (fun c53 => ?_) (fun c53 => ?_)
        · skip
          have c53 : 4 ≤ cx := (nI_leI (by omega) (by omega)).mp c53
          rw [hQ]
          exact kx_vret hx hb hr hlocks hK hN hS dd_Se_extend_166 (an1, ron1, rvn1, rdn1, rcn1, bk1) hP hD (by have h8 : cx = 4 := (by omega); rw [h8] at hat1; exact ⟨hat1, hkf, hkb, hka1⟩)
        · skip
          have c53 : ¬ (4 ≤ cx) := fun h => c53 ((nI_leI (by omega) (by omega)).mpr h)
          refine lv_iload_n hx hb dd_Se_extend_56 rfl (lv_at hl 2 rfl) ?_
          refine lv_iconst (v := nI 4) hx hb dd_Se_extend_57 (by decide) ?_
          refine kx_imul hx hb dd_Se_extend_58 ?_
          refine lv_iload hx hb dd_Se_extend_59 (lv_at hl 9 rfl) ?_
          refine kx_iadd hx hb dd_Se_extend_61 ?_
          refine lv_istore (lv' := [(11, .int (nI ((x * 4) + cx))), (0, .ref h), (1, .ref v3), (2, .int (nI x)), (3, .int (nI y)), (4, .int (nI n)), (5, .long dm), (7, .int (nI sm)), (8, .int (nI (y * 4 + fc))), (9, .int (nI (pk_ov ps fb (ru 1)))), (10, .int (nI cx))]) hx hb dd_Se_extend_62 hl (by decide) rfl (fun ls hl => ?_)
          refine lv_aload_n hx hb dd_Se_extend_64 rfl (lv_at hl 2 rfl) ?_
          refine lv_iload hx hb dd_Se_extend_65 (lv_at hl 0 rfl) ?_
          refine kx_calli (wr := [(h, .inr (7, [.ref g, .ref t, .ref k, .ref f, .ref v1, .ref v2, .ref v3, .ref v4, .int (nI ps), .int (nI ly), .int op, .int (nI pl), .int (nI wl), .int (nI wc), .ref v5, .ref v6, .ref v7])), (g, .inr (8, [.ref g0, .ref g1, .ref g2, .ref g3, .int (nI mc)])), (g0, .inl (cI, 9, .inl ru)), (f, .inr (3, [.int fb, .int (nI fc), .long fo])), (qb0, .inl (cJ, zb, .inr (.inl rob))), (qb1, .inl (cI, zb, .inl rvb)), (qb2, .inl (cJ, zb, .inr (.inl rdb))), (v4, .inr (6, [.int an1, .ref qn0, .ref qn1, .ref qn2, .ref qn3])), (qn0, .inl (cJ, zn, .inr (.inl ron1))), (qn1, .inl (cI, zn, .inl rvn1)), (qn2, .inl (cJ, zn, .inr (.inl rdn1))), (qn3, .inl (cI, zn, .inl rcn1)), (v7, .inl (cI, lw, .inl bk1))]) (va_runV (C := rr_Rw) (As := [.int (nI ((x * 4) + cx))]) (rest := []) ⟨hx, hb, hml, hown, hts⟩ (ct_Rw_has l D cI cJ cZ H.size v3 qb0 qb1 qb2 qb3 zb anb rcb ((x * 4) + cx) (by omega) (by omega)) ⟨(callB_of 1 hts (kx_good kw_661) rfl rfl rfl (hts _ (kx_m kw_51)) (hts _ (kx_m kw_728)) (by decide +kernel) ⟨Nat.le_of_ble_eq_true rfl, Nat.le_of_ble_eq_true rfl⟩), (hts _ (kx_m kw_659)), (hts _ (kx_m kw_660))⟩ (kx_preV (ci := 6) (q0 := 0) hK hN (hP.sub [4, 8] kt_15_4_8) (hD.sub [4, 8] (by decide) ks_15_4_8) rfl kg_2_0) rfl rfl hl.1 rfl (lv_room (Nat.le_of_ble_eq_true rfl)) dd_Se_extend_67 ⟨Nat.le_of_ble_eq_true rfl, Nat.le_of_ble_eq_true rfl⟩) hP hD hS hA [4, 8] [0, 1, 2, 3, 5, 6, 7, 9, 10, 11, 12, 13, 14] ks_15_4_8 ks_15_0_1_2_3_5_6_7_9_10_11_12_13_14 (by decide) (by decide) (fun r67 u67 H locs hw67 hP hD hS => ?_)
          have hP : va_P D vwCl [(h, .inr (7, [.ref g, .ref t, .ref k, .ref f, .ref v1, .ref v2, .ref v3, .ref v4, .int (nI ps), .int (nI ly), .int op, .int (nI pl), .int (nI wl), .int (nI wc), .ref v5, .ref v6, .ref v7])), (g, .inr (8, [.ref g0, .ref g1, .ref g2, .ref g3, .int (nI mc)])), (g0, .inl (cI, 9, .inl ru)), (f, .inr (3, [.int fb, .int (nI fc), .long fo])), (qb0, .inl (cJ, zb, .inr (.inl rob))), (qb1, .inl (cI, zb, .inl rvb)), (qb2, .inl (cJ, zb, .inr (.inl rdb))), (v4, .inr (6, [.int an1, .ref qn0, .ref qn1, .ref qn2, .ref qn3])), (qn0, .inl (cJ, zn, .inr (.inl ron1))), (qn1, .inl (cI, zn, .inl rvn1)), (qn2, .inl (cJ, zn, .inr (.inl rdn1))), (qn3, .inl (cI, zn, .inl rcn1)), (v7, .inl (cI, lw, .inl bk1)), (v3, .inr (6, [.int anb, .ref qb0, .ref qb1, .ref qb2, .ref qb3])), (qb3, .inl (cI, zb, .inl rcb))] H := hP
          have hD : va_D A [(h, .inr (7, [.ref g, .ref t, .ref k, .ref f, .ref v1, .ref v2, .ref v3, .ref v4, .int (nI ps), .int (nI ly), .int op, .int (nI pl), .int (nI wl), .int (nI wc), .ref v5, .ref v6, .ref v7])), (g, .inr (8, [.ref g0, .ref g1, .ref g2, .ref g3, .int (nI mc)])), (g0, .inl (cI, 9, .inl ru)), (f, .inr (3, [.int fb, .int (nI fc), .long fo])), (qb0, .inl (cJ, zb, .inr (.inl rob))), (qb1, .inl (cI, zb, .inl rvb)), (qb2, .inl (cJ, zb, .inr (.inl rdb))), (v4, .inr (6, [.int an1, .ref qn0, .ref qn1, .ref qn2, .ref qn3])), (qn0, .inl (cJ, zn, .inr (.inl ron1))), (qn1, .inl (cI, zn, .inl rvn1)), (qn2, .inl (cJ, zn, .inr (.inl rdn1))), (qn3, .inl (cI, zn, .inl rcn1)), (v7, .inl (cI, lw, .inl bk1)), (v3, .inr (6, [.int anb, .ref qb0, .ref qb1, .ref qb2, .ref qb3])), (qb3, .inl (cI, zb, .inl rcb))] := hD
          have hP : va_P D vwCl [(h, .inr (7, [.ref g, .ref t, .ref k, .ref f, .ref v1, .ref v2, .ref v3, .ref v4, .int (nI ps), .int (nI ly), .int op, .int (nI pl), .int (nI wl), .int (nI wc), .ref v5, .ref v6, .ref v7])), (g, .inr (8, [.ref g0, .ref g1, .ref g2, .ref g3, .int (nI mc)])), (g0, .inl (cI, 9, .inl ru)), (f, .inr (3, [.int fb, .int (nI fc), .long fo])), (v3, .inr (6, [.int anb, .ref qb0, .ref qb1, .ref qb2, .ref qb3])), (qb0, .inl (cJ, zb, .inr (.inl rob))), (qb1, .inl (cI, zb, .inl rvb)), (qb2, .inl (cJ, zb, .inr (.inl rdb))), (qb3, .inl (cI, zb, .inl rcb)), (v4, .inr (6, [.int an1, .ref qn0, .ref qn1, .ref qn2, .ref qn3])), (qn0, .inl (cJ, zn, .inr (.inl ron1))), (qn1, .inl (cI, zn, .inl rvn1)), (qn2, .inl (cJ, zn, .inr (.inl rdn1))), (qn3, .inl (cI, zn, .inl rcn1)), (v7, .inl (cI, lw, .inl bk1))] H := hP.sub [0, 1, 2, 3, 13, 4, 5, 6, 14, 7, 8, 9, 10, 11, 12] kt_15_0_1_2_3_13_4_5_6_14_7_8_9_10_11_12
          have hD : va_D A [(h, .inr (7, [.ref g, .ref t, .ref k, .ref f, .ref v1, .ref v2, .ref v3, .ref v4, .int (nI ps), .int (nI ly), .int op, .int (nI pl), .int (nI wl), .int (nI wc), .ref v5, .ref v6, .ref v7])), (g, .inr (8, [.ref g0, .ref g1, .ref g2, .ref g3, .int (nI mc)])), (g0, .inl (cI, 9, .inl ru)), (f, .inr (3, [.int fb, .int (nI fc), .long fo])), (v3, .inr (6, [.int anb, .ref qb0, .ref qb1, .ref qb2, .ref qb3])), (qb0, .inl (cJ, zb, .inr (.inl rob))), (qb1, .inl (cI, zb, .inl rvb)), (qb2, .inl (cJ, zb, .inr (.inl rdb))), (qb3, .inl (cI, zb, .inl rcb)), (v4, .inr (6, [.int an1, .ref qn0, .ref qn1, .ref qn2, .ref qn3])), (qn0, .inl (cJ, zn, .inr (.inl ron1))), (qn1, .inl (cI, zn, .inl rvn1)), (qn2, .inl (cJ, zn, .inr (.inl rdn1))), (qn3, .inl (cI, zn, .inl rcn1)), (v7, .inl (cI, lw, .inl bk1))] := hD.sub [0, 1, 2, 3, 13, 4, 5, 6, 14, 7, 8, 9, 10, 11, 12] (by decide) ks_15_0_1_2_3_13_4_5_6_14_7_8_9_10_11_12
          have hw67 : r67 = kb_p (¬ rcb ((x * 4) + cx) = (-1)) := hw67
          subst hw67
          refine lv_if_eq (tgt := 160) hx hb dd_Se_extend_70 (by decide) (fun c70 => ?_) (fun c70 => ?_)
          · skip
            have c70 : ¬ (¬ rcb ((x * 4) + cx) = (-1)) := kb_0.mp c70
            have hPc := hPr cx (by omega)
            have hKn : KK (8 * x + 4 * sm + cx) = none := by rw [hKK cx (by omega), (ke_has hPc).mp (Decidable.not_not.mp c70)]; rfl
            refine lv_iinc (v := nI (cx + 1)) (lv' := [(10, .int (nI (cx + 1))), (11, .int (nI ((x * 4) + cx))), (0, .ref h), (1, .ref v3), (2, .int (nI x)), (3, .int (nI y)), (4, .int (nI n)), (5, .long dm), (7, .int (nI sm)), (8, .int (nI (y * 4 + fc))), (9, .int (nI (pk_ov ps fb (ru 1))))]) hx hb dd_Se_extend_160 hl (k := 10) rfl (nI_add cx 1) (by decide) rfl (fun ls hl => ?_)
            refine lv_goto (tgt := 50) hx hb dd_Se_extend_163 (by decide) ?_
            exact ih_50 (cx + 1) an1 ron1 rvn1 rdn1 rcn1 bk1 (by omega) (by omega) (by first | exact ke_at_n hat1 hKn | (rw [e2, e3, e4, e5]; exact ke_at_k hat1 hKs hz9 hcd) | (rw [e2, e3, e4, e5]; exact ke_at_y hat1 hKs hz9 hcd (by rw [ke_en_at (by omega) hsm]))) (by first | exact hkf | (rw [e2, e3, e4, e5]; first | exact hkf | exact kf_y hkf)) (by first | exact hkb | exact fun q hq => by rw [show upd bk1 ((n - 1) * pl + (y * 4 + fc)) _ q = bk1 q from if_neg hq]; exact hkb q hq) (by first | exact hka1 | (rw [e1, e5]; first | exact hka1 | exact ka_y (by omega) hz9)) H locs hP hD hS ls (lv_sub hl [2, 3, 4, 5, 6, 7, 8, 9, 10, 0] rfl)
          · skip
            have c70 : ¬ rcb ((x * 4) + cx) = (-1) := kb_1.mp c70
            have hPc := hPr cx (by omega)
            obtain ⟨z9, hz0⟩ : ∃ z, Pr cx = some z := by cases h9 : Pr cx with | none => exact absurd ((ke_has hPc).mpr h9) c70 | some z => exact ⟨z, rfl⟩
            have hzn := hPn cx (by omega) z9 hz0
            rw [hz0] at hPc
            obtain ⟨hp0, hp1, hp2, hp3, hp4⟩ := hPc
            have hKs : KK (8 * x + 4 * sm + cx) = some (ke_st fo (pk_ov ps fb (ru 1)) dm (if pm_adj fc cx then (ru 5).toInt64 else 0) z9) := by rw [hKK cx (by omega), hz0]; rfl
            have hz9 : z9.2 + 1 ≤ 1000 := by omega
            have hnc : rcb (x * 4 + cx) + nI 1 = nI (z9.2 + 1) := by rw [hp1, nI_add]
            refine lv_aload_n hx hb dd_Se_extend_73 rfl (lv_at hl 1 rfl) ?_
            refine va_get (D := D) (ci := 7) (v := .ref v4) (C := rr_Se) (T := tt_Se) (N := 17) hx hb hts hin7 hown hK hP 0 kg_15_0 rfl 7 (by decide) lk9 (fun _ h9 => h9) rfl dd_Se_extend_74 ?_
            refine lv_iload hx hb dd_Se_extend_77 (lv_at hl 8 rfl) ?_
            refine lv_aload_n hx hb dd_Se_extend_79 rfl (lv_at hl 2 rfl) ?_
            refine va_get (D := D) (ci := 6) (v := .ref qb0) (C := rr_Rw) (T := tt_Rw) (N := 5) hx hb hts hin6 hown hK hP 4 kg_15_4 rfl 1 (by decide) lk10 (fun _ h9 => h9) rfl dd_Se_extend_80 ?_
            refine lv_iload hx hb dd_Se_extend_83 (lv_at hl 0 rfl) ?_
            refine kx_lald (q0 := 5) (t0 := 1) hx hb dd_Se_extend_85 hK hP kg_15_5 rfl (by omega) (by omega) ?_
            refine lv_aload_n hx hb dd_Se_extend_86 rfl (lv_at hl 1 rfl) ?_
            refine va_get (D := D) (ci := 7) (v := .ref f) (C := rr_Se) (T := tt_Se) (N := 17) hx hb hts hin7 hown hK hP 0 kg_15_0 rfl 3 (by decide) lk0 (fun _ h9 => h9) rfl dd_Se_extend_87 ?_
            refine va_get (D := D) (ci := 3) (v := .long fo) (C := rr_Ft) (T := tt_Ft) (N := 3) hx hb hts hin3 hown hK hP 3 kg_15_3 rfl 2 (by decide) lk12 (fun _ h9 => h9) rfl dd_Se_extend_90 ?_
            refine lv_ladd hx hb dd_Se_extend_93 ?_
            refine lv_aload_n hx hb dd_Se_extend_94 rfl (lv_at hl 2 rfl) ?_
            refine va_get (D := D) (ci := 6) (v := .ref qb1) (C := rr_Rw) (T := tt_Rw) (N := 5) hx hb hts hin6 hown hK hP 4 kg_15_4 rfl 2 (by decide) lk13 (fun _ h9 => h9) rfl dd_Se_extend_95 ?_
            refine lv_iload hx hb dd_Se_extend_98 (lv_at hl 0 rfl) ?_
            refine kx_iald (q0 := 6) (t0 := 0) hx hb dd_Se_extend_100 hK hP kg_15_6 rfl (by omega) (by omega) ?_
            refine lv_iload hx hb dd_Se_extend_101 (lv_at hl 9 rfl) ?_
            refine lv_iadd hx hb dd_Se_extend_103 ?_
            refine lv_aload_n hx hb dd_Se_extend_104 rfl (lv_at hl 2 rfl) ?_
            refine va_get (D := D) (ci := 6) (v := .ref qb2) (C := rr_Rw) (T := tt_Rw) (N := 5) hx hb hts hin6 hown hK hP 4 kg_15_4 rfl 3 (by decide) lk14 (fun _ h9 => h9) rfl dd_Se_extend_105 ?_
            refine lv_iload hx hb dd_Se_extend_108 (lv_at hl 0 rfl) ?_
            refine kx_lald (q0 := 7) (t0 := 1) hx hb dd_Se_extend_110 hK hP kg_15_7 rfl (by omega) (by omega) ?_
            refine lv_lload hx hb dd_Se_extend_111 (lv_at hl 6 rfl) ?_
            refine lv_ladd hx hb dd_Se_extend_113 ?_
            refine lv_aload_n hx hb dd_Se_extend_114 rfl (lv_at hl 1 rfl) ?_
            refine lv_iload hx hb dd_Se_extend_115 (lv_at hl 10 rfl) ?_
            refine kx_calll (wr := [(v3, .inr (6, [.int anb, .ref qb0, .ref qb1, .ref qb2, .ref qb3])), (qb0, .inl (cJ, zb, .inr (.inl rob))), (qb1, .inl (cI, zb, .inl rvb)), (qb2, .inl (cJ, zb, .inr (.inl rdb))), (qb3, .inl (cI, zb, .inl rcb)), (v4, .inr (6, [.int an1, .ref qn0, .ref qn1, .ref qn2, .ref qn3])), (qn0, .inl (cJ, zn, .inr (.inl ron1))), (qn1, .inl (cI, zn, .inl rvn1)), (qn2, .inl (cJ, zn, .inr (.inl rdn1))), (qn3, .inl (cI, zn, .inl rcn1)), (v7, .inl (cI, lw, .inl bk1))]) (va_runV (C := rr_Se) (As := [.int (nI cx)]) (rest := [.long ((rdb ((x * 4) + cx)) + dm), .int ((rvb ((x * 4) + cx)) + (nI (pk_ov ps fb (ru 1)))), .long ((rob ((x * 4) + cx)) + fo), .int (nI (y * 4 + fc)), .ref v4]) ⟨hx, hb, hml, hown, hts⟩ (ct_Se_adjacentTo l D cI cJ cZ H.size h t v1 v2 v3 v4 v5 v6 v7 ps ly op pl wl wc k g g0 g1 g2 g3 mc ru f fb fc fo cx (by omega) (by omega)) ⟨(callB_of 1 hts (kx_good kw_732) rfl rfl rfl (hts _ (kx_m kw_48)) (hts _ (kx_m kw_729)) (by decide +kernel) ⟨Nat.le_of_ble_eq_true rfl, Nat.le_of_ble_eq_true rfl⟩), (hts _ (kx_m kw_731)), (hts _ (kx_m kw_19))⟩ (kx_preV (ci := 7) (q0 := 0) hK hN (hP.sub [0, 1, 2, 3] kt_15_0_1_2_3) (hD.sub [0, 1, 2, 3] (by decide) ks_15_0_1_2_3) rfl kg_4_0) rfl rfl hl.1 rfl (lv_room (Nat.le_of_ble_eq_true rfl)) dd_Se_extend_117 ⟨Nat.le_of_ble_eq_true rfl, Nat.le_of_ble_eq_true rfl⟩) hP hD hS hA [0, 1, 2, 3] [4, 5, 6, 7, 8, 9, 10, 11, 12, 13, 14] ks_15_0_1_2_3 ks_15_4_5_6_7_8_9_10_11_12_13_14 (by decide) (by decide) (fun r117 u117 H locs hw117 hP hD hS => ?_)
            have hP : va_P D vwCl [(v3, .inr (6, [.int anb, .ref qb0, .ref qb1, .ref qb2, .ref qb3])), (qb0, .inl (cJ, zb, .inr (.inl rob))), (qb1, .inl (cI, zb, .inl rvb)), (qb2, .inl (cJ, zb, .inr (.inl rdb))), (qb3, .inl (cI, zb, .inl rcb)), (v4, .inr (6, [.int an1, .ref qn0, .ref qn1, .ref qn2, .ref qn3])), (qn0, .inl (cJ, zn, .inr (.inl ron1))), (qn1, .inl (cI, zn, .inl rvn1)), (qn2, .inl (cJ, zn, .inr (.inl rdn1))), (qn3, .inl (cI, zn, .inl rcn1)), (v7, .inl (cI, lw, .inl bk1)), (h, .inr (7, [.ref g, .ref t, .ref k, .ref f, .ref v1, .ref v2, .ref v3, .ref v4, .int (nI ps), .int (nI ly), .int op, .int (nI pl), .int (nI wl), .int (nI wc), .ref v5, .ref v6, .ref v7])), (g, .inr (8, [.ref g0, .ref g1, .ref g2, .ref g3, .int (nI mc)])), (g0, .inl (cI, 9, .inl ru)), (f, .inr (3, [.int fb, .int (nI fc), .long fo]))] H := hP
            have hD : va_D A [(v3, .inr (6, [.int anb, .ref qb0, .ref qb1, .ref qb2, .ref qb3])), (qb0, .inl (cJ, zb, .inr (.inl rob))), (qb1, .inl (cI, zb, .inl rvb)), (qb2, .inl (cJ, zb, .inr (.inl rdb))), (qb3, .inl (cI, zb, .inl rcb)), (v4, .inr (6, [.int an1, .ref qn0, .ref qn1, .ref qn2, .ref qn3])), (qn0, .inl (cJ, zn, .inr (.inl ron1))), (qn1, .inl (cI, zn, .inl rvn1)), (qn2, .inl (cJ, zn, .inr (.inl rdn1))), (qn3, .inl (cI, zn, .inl rcn1)), (v7, .inl (cI, lw, .inl bk1)), (h, .inr (7, [.ref g, .ref t, .ref k, .ref f, .ref v1, .ref v2, .ref v3, .ref v4, .int (nI ps), .int (nI ly), .int op, .int (nI pl), .int (nI wl), .int (nI wc), .ref v5, .ref v6, .ref v7])), (g, .inr (8, [.ref g0, .ref g1, .ref g2, .ref g3, .int (nI mc)])), (g0, .inl (cI, 9, .inl ru)), (f, .inr (3, [.int fb, .int (nI fc), .long fo]))] := hD
            have hP : va_P D vwCl [(h, .inr (7, [.ref g, .ref t, .ref k, .ref f, .ref v1, .ref v2, .ref v3, .ref v4, .int (nI ps), .int (nI ly), .int op, .int (nI pl), .int (nI wl), .int (nI wc), .ref v5, .ref v6, .ref v7])), (g, .inr (8, [.ref g0, .ref g1, .ref g2, .ref g3, .int (nI mc)])), (g0, .inl (cI, 9, .inl ru)), (f, .inr (3, [.int fb, .int (nI fc), .long fo])), (v3, .inr (6, [.int anb, .ref qb0, .ref qb1, .ref qb2, .ref qb3])), (qb0, .inl (cJ, zb, .inr (.inl rob))), (qb1, .inl (cI, zb, .inl rvb)), (qb2, .inl (cJ, zb, .inr (.inl rdb))), (qb3, .inl (cI, zb, .inl rcb)), (v4, .inr (6, [.int an1, .ref qn0, .ref qn1, .ref qn2, .ref qn3])), (qn0, .inl (cJ, zn, .inr (.inl ron1))), (qn1, .inl (cI, zn, .inl rvn1)), (qn2, .inl (cJ, zn, .inr (.inl rdn1))), (qn3, .inl (cI, zn, .inl rcn1)), (v7, .inl (cI, lw, .inl bk1))] H := hP.sub [11, 12, 13, 14, 0, 1, 2, 3, 4, 5, 6, 7, 8, 9, 10] kt_15_11_12_13_14_0_1_2_3_4_5_6_7_8_9_10
            have hD : va_D A [(h, .inr (7, [.ref g, .ref t, .ref k, .ref f, .ref v1, .ref v2, .ref v3, .ref v4, .int (nI ps), .int (nI ly), .int op, .int (nI pl), .int (nI wl), .int (nI wc), .ref v5, .ref v6, .ref v7])), (g, .inr (8, [.ref g0, .ref g1, .ref g2, .ref g3, .int (nI mc)])), (g0, .inl (cI, 9, .inl ru)), (f, .inr (3, [.int fb, .int (nI fc), .long fo])), (v3, .inr (6, [.int anb, .ref qb0, .ref qb1, .ref qb2, .ref qb3])), (qb0, .inl (cJ, zb, .inr (.inl rob))), (qb1, .inl (cI, zb, .inl rvb)), (qb2, .inl (cJ, zb, .inr (.inl rdb))), (qb3, .inl (cI, zb, .inl rcb)), (v4, .inr (6, [.int an1, .ref qn0, .ref qn1, .ref qn2, .ref qn3])), (qn0, .inl (cJ, zn, .inr (.inl ron1))), (qn1, .inl (cI, zn, .inl rvn1)), (qn2, .inl (cJ, zn, .inr (.inl rdn1))), (qn3, .inl (cI, zn, .inl rcn1)), (v7, .inl (cI, lw, .inl bk1))] := hD.sub [11, 12, 13, 14, 0, 1, 2, 3, 4, 5, 6, 7, 8, 9, 10] (by decide) ks_15_11_12_13_14_0_1_2_3_4_5_6_7_8_9_10
            have hw117 : r117 = if pm_adj fc cx then (ru 5).toInt64 else 0 := hw117
            subst hw117
            refine lv_ladd hx hb dd_Se_extend_120 ?_
            refine lv_aload_n hx hb dd_Se_extend_121 rfl (lv_at hl 2 rfl) ?_
            refine va_get (D := D) (ci := 6) (v := .ref qb3) (C := rr_Rw) (T := tt_Rw) (N := 5) hx hb hts hin6 hown hK hP 4 kg_15_4 rfl 4 (by decide) lk15 (fun _ h9 => h9) rfl dd_Se_extend_122 ?_
            refine lv_iload hx hb dd_Se_extend_125 (lv_at hl 0 rfl) ?_
            refine kx_iald (q0 := 8) (t0 := 0) hx hb dd_Se_extend_127 hK hP kg_15_8 rfl (by omega) (by omega) ?_
            refine lv_iconst (v := nI 1) hx hb dd_Se_extend_128 (by decide) ?_
            refine lv_iadd hx hb dd_Se_extend_129 ?_
            refine kx_calli (wr := [(h, .inr (7, [.ref g, .ref t, .ref k, .ref f, .ref v1, .ref v2, .ref v3, .ref v4, .int (nI ps), .int (nI ly), .int op, .int (nI pl), .int (nI wl), .int (nI wc), .ref v5, .ref v6, .ref v7])), (g, .inr (8, [.ref g0, .ref g1, .ref g2, .ref g3, .int (nI mc)])), (g0, .inl (cI, 9, .inl ru)), (f, .inr (3, [.int fb, .int (nI fc), .long fo])), (v3, .inr (6, [.int anb, .ref qb0, .ref qb1, .ref qb2, .ref qb3])), (qb0, .inl (cJ, zb, .inr (.inl rob))), (qb1, .inl (cI, zb, .inl rvb)), (qb2, .inl (cJ, zb, .inr (.inl rdb))), (qb3, .inl (cI, zb, .inl rcb)), (v7, .inl (cI, lw, .inl bk1))]) (va_runV (C := rr_Rw) (As := [.int (nI (y * 4 + fc)), .long ((rob ((x * 4) + cx)) + fo), .int ((rvb ((x * 4) + cx)) + (nI (pk_ov ps fb (ru 1)))), .long (((rdb ((x * 4) + cx)) + dm) + (if pm_adj fc cx then (ru 5).toInt64 else 0)), .int ((rcb ((x * 4) + cx)) + (nI 1))]) (rest := []) ⟨hx, hb, hml, hown, hts⟩ (ct_Rw_offer l D cI cJ cZ H.size v4 qn0 qn1 qn2 qn3 zn an1 ron1 rvn1 rdn1 rcn1 (y * 4 + fc) ((rob ((x * 4) + cx)) + fo) ((rvb ((x * 4) + cx)) + (nI (pk_ov ps fb (ru 1)))) (((rdb ((x * 4) + cx)) + dm) + (if pm_adj fc cx then (ru 5).toInt64 else 0)) ((rcb ((x * 4) + cx)) + (nI 1)) (by omega) (by omega)) ⟨(callB_of 5 hts (kx_good kw_657) rfl rfl rfl (hts _ (kx_m kw_51)) (hts _ (kx_m kw_654)) (by decide +kernel) ⟨Nat.le_of_ble_eq_true rfl, Nat.le_of_ble_eq_true rfl⟩), (hts _ (kx_m kw_655)), (hts _ (kx_m kw_656))⟩ (kx_preV (ci := 6) (q0 := 0) hK hN (hP.sub [9, 10, 11, 12, 13] kt_15_9_10_11_12_13) (hD.sub [9, 10, 11, 12, 13] (by decide) ks_15_9_10_11_12_13) rfl kg_5_0) rfl rfl hl.1 rfl (lv_room (Nat.le_of_ble_eq_true rfl)) dd_Se_extend_130 ⟨Nat.le_of_ble_eq_true rfl, Nat.le_of_ble_eq_true rfl⟩) hP hD hS hA [9, 10, 11, 12, 13] [0, 1, 2, 3, 4, 5, 6, 7, 8, 14] ks_15_9_10_11_12_13 ks_15_0_1_2_3_4_5_6_7_8_14 (by decide) (by decide) (fun r130 u130 H locs hw130 hP hD hS => ?_)
            obtain ⟨an2_130, ro2_130, rv2_130, rd2_130, rc2_130⟩ := u130
            have hP : va_P D vwCl [(h, .inr (7, [.ref g, .ref t, .ref k, .ref f, .ref v1, .ref v2, .ref v3, .ref v4, .int (nI ps), .int (nI ly), .int op, .int (nI pl), .int (nI wl), .int (nI wc), .ref v5, .ref v6, .ref v7])), (g, .inr (8, [.ref g0, .ref g1, .ref g2, .ref g3, .int (nI mc)])), (g0, .inl (cI, 9, .inl ru)), (f, .inr (3, [.int fb, .int (nI fc), .long fo])), (v3, .inr (6, [.int anb, .ref qb0, .ref qb1, .ref qb2, .ref qb3])), (qb0, .inl (cJ, zb, .inr (.inl rob))), (qb1, .inl (cI, zb, .inl rvb)), (qb2, .inl (cJ, zb, .inr (.inl rdb))), (qb3, .inl (cI, zb, .inl rcb)), (v7, .inl (cI, lw, .inl bk1)), (v4, .inr (6, [.int an2_130, .ref qn0, .ref qn1, .ref qn2, .ref qn3])), (qn0, .inl (cJ, zn, .inr (.inl ro2_130))), (qn1, .inl (cI, zn, .inl rv2_130)), (qn2, .inl (cJ, zn, .inr (.inl rd2_130))), (qn3, .inl (cI, zn, .inl rc2_130))] H := hP
            have hD : va_D A [(h, .inr (7, [.ref g, .ref t, .ref k, .ref f, .ref v1, .ref v2, .ref v3, .ref v4, .int (nI ps), .int (nI ly), .int op, .int (nI pl), .int (nI wl), .int (nI wc), .ref v5, .ref v6, .ref v7])), (g, .inr (8, [.ref g0, .ref g1, .ref g2, .ref g3, .int (nI mc)])), (g0, .inl (cI, 9, .inl ru)), (f, .inr (3, [.int fb, .int (nI fc), .long fo])), (v3, .inr (6, [.int anb, .ref qb0, .ref qb1, .ref qb2, .ref qb3])), (qb0, .inl (cJ, zb, .inr (.inl rob))), (qb1, .inl (cI, zb, .inl rvb)), (qb2, .inl (cJ, zb, .inr (.inl rdb))), (qb3, .inl (cI, zb, .inl rcb)), (v7, .inl (cI, lw, .inl bk1)), (v4, .inr (6, [.int an2_130, .ref qn0, .ref qn1, .ref qn2, .ref qn3])), (qn0, .inl (cJ, zn, .inr (.inl ro2_130))), (qn1, .inl (cI, zn, .inl rv2_130)), (qn2, .inl (cJ, zn, .inr (.inl rd2_130))), (qn3, .inl (cI, zn, .inl rc2_130))] := hD
            have hP : va_P D vwCl [(h, .inr (7, [.ref g, .ref t, .ref k, .ref f, .ref v1, .ref v2, .ref v3, .ref v4, .int (nI ps), .int (nI ly), .int op, .int (nI pl), .int (nI wl), .int (nI wc), .ref v5, .ref v6, .ref v7])), (g, .inr (8, [.ref g0, .ref g1, .ref g2, .ref g3, .int (nI mc)])), (g0, .inl (cI, 9, .inl ru)), (f, .inr (3, [.int fb, .int (nI fc), .long fo])), (v3, .inr (6, [.int anb, .ref qb0, .ref qb1, .ref qb2, .ref qb3])), (qb0, .inl (cJ, zb, .inr (.inl rob))), (qb1, .inl (cI, zb, .inl rvb)), (qb2, .inl (cJ, zb, .inr (.inl rdb))), (qb3, .inl (cI, zb, .inl rcb)), (v4, .inr (6, [.int an2_130, .ref qn0, .ref qn1, .ref qn2, .ref qn3])), (qn0, .inl (cJ, zn, .inr (.inl ro2_130))), (qn1, .inl (cI, zn, .inl rv2_130)), (qn2, .inl (cJ, zn, .inr (.inl rd2_130))), (qn3, .inl (cI, zn, .inl rc2_130)), (v7, .inl (cI, lw, .inl bk1))] H := hP.sub [0, 1, 2, 3, 4, 5, 6, 7, 8, 10, 11, 12, 13, 14, 9] kt_15_0_1_2_3_4_5_6_7_8_10_11_12_13_14_9
            have hD : va_D A [(h, .inr (7, [.ref g, .ref t, .ref k, .ref f, .ref v1, .ref v2, .ref v3, .ref v4, .int (nI ps), .int (nI ly), .int op, .int (nI pl), .int (nI wl), .int (nI wc), .ref v5, .ref v6, .ref v7])), (g, .inr (8, [.ref g0, .ref g1, .ref g2, .ref g3, .int (nI mc)])), (g0, .inl (cI, 9, .inl ru)), (f, .inr (3, [.int fb, .int (nI fc), .long fo])), (v3, .inr (6, [.int anb, .ref qb0, .ref qb1, .ref qb2, .ref qb3])), (qb0, .inl (cJ, zb, .inr (.inl rob))), (qb1, .inl (cI, zb, .inl rvb)), (qb2, .inl (cJ, zb, .inr (.inl rdb))), (qb3, .inl (cI, zb, .inl rcb)), (v4, .inr (6, [.int an2_130, .ref qn0, .ref qn1, .ref qn2, .ref qn3])), (qn0, .inl (cJ, zn, .inr (.inl ro2_130))), (qn1, .inl (cI, zn, .inl rv2_130)), (qn2, .inl (cJ, zn, .inr (.inl rd2_130))), (qn3, .inl (cI, zn, .inl rc2_130)), (v7, .inl (cI, lw, .inl bk1))] := hD.sub [0, 1, 2, 3, 4, 5, 6, 7, 8, 10, 11, 12, 13, 14, 9] (by decide) ks_15_0_1_2_3_4_5_6_7_8_10_11_12_13_14_9
            obtain ⟨rfl, hw130⟩ := hw130
            have hw130 : (if rcn1 (y * 4 + fc) = (-1) ∨ pk_bt ((rob ((x * 4) + cx)) + fo) (ron1 (y * 4 + fc)) ((rvb ((x * 4) + cx)) + (nI (pk_ov ps fb (ru 1)))) (rvn1 (y * 4 + fc)) (((rdb ((x * 4) + cx)) + dm) + (if pm_adj fc cx then (ru 5).toInt64 else 0)) (rdn1 (y * 4 + fc)) ((rcb ((x * 4) + cx)) + (nI 1)) (rcn1 (y * 4 + fc)) then an2_130 = nI 1 ∧ ro2_130 = vp_updL ron1 (y * 4 + fc) ((rob ((x * 4) + cx)) + fo) ∧ rv2_130 = upd rvn1 (y * 4 + fc) ((rvb ((x * 4) + cx)) + (nI (pk_ov ps fb (ru 1)))) ∧ rd2_130 = vp_updL rdn1 (y * 4 + fc) (((rdb ((x * 4) + cx)) + dm) + (if pm_adj fc cx then (ru 5).toInt64 else 0)) ∧ rc2_130 = upd rcn1 (y * 4 + fc) ((rcb ((x * 4) + cx)) + (nI 1)) else an2_130 = an1 ∧ ro2_130 = ron1 ∧ rv2_130 = rvn1 ∧ rd2_130 = rdn1 ∧ rc2_130 = rcn1) := hw130
            refine lv_if_eq (tgt := 160) hx hb dd_Se_extend_133 (by decide) (fun c133 => ?_) (fun c133 => ?_)
            · skip
              have c133 : ¬ (rcn1 (y * 4 + fc) = (-1) ∨ pk_bt ((rob ((x * 4) + cx)) + fo) (ron1 (y * 4 + fc)) ((rvb ((x * 4) + cx)) + (nI (pk_ov ps fb (ru 1)))) (rvn1 (y * 4 + fc)) (((rdb ((x * 4) + cx)) + dm) + (if pm_adj fc cx then (ru 5).toInt64 else 0)) (rdn1 (y * 4 + fc)) ((rcb ((x * 4) + cx)) + (nI 1)) (rcn1 (y * 4 + fc))) := kb_0.mp c133
              have hcd := c133
              rw [hp2, hp3, hp4, hnc] at hcd hw130
              rw [if_neg hcd] at hw130
              obtain ⟨e1, e2, e3, e4, e5⟩ := hw130
              refine lv_iinc (v := nI (cx + 1)) (lv' := [(10, .int (nI (cx + 1))), (11, .int (nI ((x * 4) + cx))), (0, .ref h), (1, .ref v3), (2, .int (nI x)), (3, .int (nI y)), (4, .int (nI n)), (5, .long dm), (7, .int (nI sm)), (8, .int (nI (y * 4 + fc))), (9, .int (nI (pk_ov ps fb (ru 1))))]) hx hb dd_Se_extend_160 hl (k := 10) rfl (nI_add cx 1) (by decide) rfl (fun ls hl => ?_)
              refine lv_goto (tgt := 50) hx hb dd_Se_extend_163 (by decide) ?_
              exact ih_50 (cx + 1) an2_130 ro2_130 rv2_130 rd2_130 rc2_130 bk1 (by omega) (by omega) (by first | exact ke_at_n hat1 hKn | (rw [e2, e3, e4, e5]; exact ke_at_k hat1 hKs hz9 hcd) | (rw [e2, e3, e4, e5]; exact ke_at_y hat1 hKs hz9 hcd (by rw [ke_en_at (by omega) hsm]))) (by first | exact hkf | (rw [e2, e3, e4, e5]; first | exact hkf | exact kf_y hkf)) (by first | exact hkb | exact fun q hq => by rw [show upd bk1 ((n - 1) * pl + (y * 4 + fc)) _ q = bk1 q from if_neg hq]; exact hkb q hq) (by first | exact hka1 | (rw [e1, e5]; first | exact hka1 | exact ka_y (by omega) hz9)) H locs hP hD hS ls (lv_sub hl [2, 3, 4, 5, 6, 7, 8, 9, 10, 0] rfl)
            · skip
              have c133 : rcn1 (y * 4 + fc) = (-1) ∨ pk_bt ((rob ((x * 4) + cx)) + fo) (ron1 (y * 4 + fc)) ((rvb ((x * 4) + cx)) + (nI (pk_ov ps fb (ru 1)))) (rvn1 (y * 4 + fc)) (((rdb ((x * 4) + cx)) + dm) + (if pm_adj fc cx then (ru 5).toInt64 else 0)) (rdn1 (y * 4 + fc)) ((rcb ((x * 4) + cx)) + (nI 1)) (rcn1 (y * 4 + fc)) := kb_1.mp c133
              have hcd := c133
              rw [hp2, hp3, hp4, hnc] at hcd hw130
              rw [if_pos hcd] at hw130
              obtain ⟨e1, e2, e3, e4, e5⟩ := hw130
              refine lv_aload_n hx hb dd_Se_extend_136 rfl (lv_at hl 1 rfl) ?_
              refine va_get (D := D) (ci := 7) (v := .ref v7) (C := rr_Se) (T := tt_Se) (N := 17) hx hb hts hin7 hown hK hP 0 kg_15_0 rfl 16 (by decide) lk16 (fun _ h9 => h9) rfl dd_Se_extend_137 ?_
              refine lv_iload hx hb dd_Se_extend_140 (lv_at hl 5 rfl) ?_
              refine lv_iconst (v := nI 1) hx hb dd_Se_extend_142 (by decide) ?_
              refine kx_isub hx hb dd_Se_extend_143 (by omega) ?_
              refine lv_aload_n hx hb dd_Se_extend_144 rfl (lv_at hl 1 rfl) ?_
              refine va_get (D := D) (ci := 7) (v := .int (nI pl)) (C := rr_Se) (T := tt_Se) (N := 17) hx hb hts hin7 hown hK hP 0 kg_15_0 rfl 11 (by decide) lk17 (fun _ h9 => h9) rfl dd_Se_extend_145 ?_
              refine kx_imul hx hb dd_Se_extend_148 ?_
              refine lv_iload hx hb dd_Se_extend_149 (lv_at hl 8 rfl) ?_
              refine kx_iadd hx hb dd_Se_extend_151 ?_
              refine lv_iconst (v := nI 2) hx hb dd_Se_extend_152 (by decide) ?_
              refine lv_iload hx hb dd_Se_extend_153 (lv_at hl 0 rfl) ?_
              refine kx_imul hx hb dd_Se_extend_155 ?_
              refine lv_iload hx hb dd_Se_extend_156 (lv_at hl 7 rfl) ?_
              refine kx_iadd hx hb dd_Se_extend_158 ?_
              refine kx_iast (q0 := 14) (t0 := 0) hx hb dd_Se_extend_159 hK hP hD hS kg_15_14 rfl (by omega) (by omega) (fun H locs hP hD hS => ?_)
              have hP : va_P D vwCl [(h, .inr (7, [.ref g, .ref t, .ref k, .ref f, .ref v1, .ref v2, .ref v3, .ref v4, .int (nI ps), .int (nI ly), .int op, .int (nI pl), .int (nI wl), .int (nI wc), .ref v5, .ref v6, .ref v7])), (g, .inr (8, [.ref g0, .ref g1, .ref g2, .ref g3, .int (nI mc)])), (g0, .inl (cI, 9, .inl ru)), (f, .inr (3, [.int fb, .int (nI fc), .long fo])), (v3, .inr (6, [.int anb, .ref qb0, .ref qb1, .ref qb2, .ref qb3])), (qb0, .inl (cJ, zb, .inr (.inl rob))), (qb1, .inl (cI, zb, .inl rvb)), (qb2, .inl (cJ, zb, .inr (.inl rdb))), (qb3, .inl (cI, zb, .inl rcb)), (v4, .inr (6, [.int an2_130, .ref qn0, .ref qn1, .ref qn2, .ref qn3])), (qn0, .inl (cJ, zn, .inr (.inl ro2_130))), (qn1, .inl (cI, zn, .inl rv2_130)), (qn2, .inl (cJ, zn, .inr (.inl rd2_130))), (qn3, .inl (cI, zn, .inl rc2_130)), (v7, .inl (cI, lw, .inl (upd bk1 (((n - 1) * pl) + (y * 4 + fc)) (nI ((2 * ((x * 4) + cx)) + sm)))))] H := kx_cP kz_15_14 hP
              have hD : va_D A [(h, .inr (7, [.ref g, .ref t, .ref k, .ref f, .ref v1, .ref v2, .ref v3, .ref v4, .int (nI ps), .int (nI ly), .int op, .int (nI pl), .int (nI wl), .int (nI wc), .ref v5, .ref v6, .ref v7])), (g, .inr (8, [.ref g0, .ref g1, .ref g2, .ref g3, .int (nI mc)])), (g0, .inl (cI, 9, .inl ru)), (f, .inr (3, [.int fb, .int (nI fc), .long fo])), (v3, .inr (6, [.int anb, .ref qb0, .ref qb1, .ref qb2, .ref qb3])), (qb0, .inl (cJ, zb, .inr (.inl rob))), (qb1, .inl (cI, zb, .inl rvb)), (qb2, .inl (cJ, zb, .inr (.inl rdb))), (qb3, .inl (cI, zb, .inl rcb)), (v4, .inr (6, [.int an2_130, .ref qn0, .ref qn1, .ref qn2, .ref qn3])), (qn0, .inl (cJ, zn, .inr (.inl ro2_130))), (qn1, .inl (cI, zn, .inl rv2_130)), (qn2, .inl (cJ, zn, .inr (.inl rd2_130))), (qn3, .inl (cI, zn, .inl rc2_130)), (v7, .inl (cI, lw, .inl (upd bk1 (((n - 1) * pl) + (y * 4 + fc)) (nI ((2 * ((x * 4) + cx)) + sm)))))] := kx_cD kz_15_14 hD
              refine lv_iinc (v := nI (cx + 1)) (lv' := [(10, .int (nI (cx + 1))), (11, .int (nI ((x * 4) + cx))), (0, .ref h), (1, .ref v3), (2, .int (nI x)), (3, .int (nI y)), (4, .int (nI n)), (5, .long dm), (7, .int (nI sm)), (8, .int (nI (y * 4 + fc))), (9, .int (nI (pk_ov ps fb (ru 1))))]) hx hb dd_Se_extend_160 hl (k := 10) rfl (nI_add cx 1) (by decide) rfl (fun ls hl => ?_)
              refine lv_goto (tgt := 50) hx hb dd_Se_extend_163 (by decide) ?_
              exact ih_50 (cx + 1) an2_130 ro2_130 rv2_130 rd2_130 rc2_130 (upd bk1 (((n - 1) * pl) + (y * 4 + fc)) (nI ((2 * ((x * 4) + cx)) + sm))) (by omega) (by omega) (by first | exact ke_at_n hat1 hKn | (rw [e2, e3, e4, e5]; exact ke_at_k hat1 hKs hz9 hcd) | (rw [e2, e3, e4, e5]; exact ke_at_y hat1 hKs hz9 hcd (by rw [ke_en_at (by omega) hsm]))) (by first | exact hkf | (rw [e2, e3, e4, e5]; first | exact hkf | exact kf_y hkf)) (by first | exact hkb | exact fun q hq => by rw [show upd bk1 ((n - 1) * pl + (y * 4 + fc)) _ q = bk1 q from if_neg hq]; exact hkb q hq) (by first | exact hka1 | (rw [e1, e5]; first | exact hka1 | exact ka_y (by omega) hz9)) H locs hP hD hS ls (lv_sub hl [2, 3, 4, 5, 6, 7, 8, 9, 10, 0] rfl)
    exact lp50 ((4 - 0) + 1) 0 ann ron rvn rdn rcn bk (Nat.lt_succ_self _) (by omega) hat kf_rf (fun _ _ => rfl) hka H locs hP hD hS ls (lv_sub hl [3, 4, 5, 6, 7, 8, 9, 2, 1, 0] rfl)
  · skip
    refine lv_icmp_ne (tgt := 44) hx hb dd_Se_extend_18 (by decide) (fun c18 => ?_) (fun c18 => ?_)
    · skip
      have c18 : ¬ (ps = 3) := fun h => c18 ((nI_eq (by omega) (by omega)).mpr h)
      refine lv_iconst (v := nI 0) hx hb dd_Se_extend_44 (by decide) ?_
      exact K45 _ H locs (by rw [if_neg c18]) hP hD hS
    · skip
      have c18 : ps = 3 := (nI_eq (by omega) (by omega)).mp c18
      refine lv_aload_n hx hb dd_Se_extend_21 rfl (lv_at hl 1 rfl) ?_
      refine va_get (D := D) (ci := 7) (v := .ref f) (C := rr_Se) (T := tt_Se) (N := 17) hx hb hts hin7 hown hK hP 0 kg_15_0 rfl 3 (by decide) lk0 (fun _ h9 => h9) rfl dd_Se_extend_22 ?_
      refine va_get (D := D) (ci := 3) (v := .int fb) (C := rr_Ft) (T := tt_Ft) (N := 3) hx hb hts hin3 hown hK hP 3 kg_15_3 rfl 0 (by decide) lk5 (fun _ h9 => h9) rfl dd_Se_extend_25 ?_
      refine lv_aload_n hx hb dd_Se_extend_28 rfl (lv_at hl 1 rfl) ?_
      refine va_get (D := D) (ci := 7) (v := .ref g) (C := rr_Se) (T := tt_Se) (N := 17) hx hb hts hin7 hown hK hP 0 kg_15_0 rfl 0 (by decide) lk6 (fun _ h9 => h9) rfl dd_Se_extend_29 ?_
      refine va_get (D := D) (ci := 8) (v := .ref g0) (C := rr_Sg) (T := tt_Sg) (N := 5) hx hb hts hin8 hown hK hP 1 kg_15_1 rfl 0 (by decide) lk7 (fun _ h9 => h9) rfl dd_Se_extend_32 ?_
      refine lv_iconst (v := nI 1) hx hb dd_Se_extend_35 (by decide) ?_
      refine kx_iald (q0 := 2) (t0 := 0) hx hb dd_Se_extend_36 hK hP kg_15_2 rfl (by omega) (by omega) ?_
      refine lv_icmp_le (tgt := 44) hx hb dd_Se_extend_37 (by decide) (fun c37 => ?_) (fun c37 => ?_)
      · skip
        refine lv_iconst (v := nI 0) hx hb dd_Se_extend_44 (by decide) ?_
        exact K45 _ H locs (by rw [if_pos c18, if_pos c37]) hP hD hS
      · skip
        refine lv_iconst (v := nI 1) hx hb dd_Se_extend_40 (by decide) ?_
        refine lv_goto (tgt := 45) hx hb dd_Se_extend_41 (by decide) ?_
        exact K45 _ H locs (by rw [if_pos c18, if_neg c37]) hP hD hS


set_option maxHeartbeats 4000000 in
set_option maxRecDepth 100000 in
theorem ct_Se_extend_n (l : Launch) (D : va_G) (cI cJ cZ : ClassId) (sz : Nat) (h : Nat) (t : Nat) (v1 : Nat) (v2 : Nat) (v3 : Nat) (v4 : Nat) (v5 : Nat) (v6 : Nat) (v7 : Nat) (ps : Nat) (ly : Nat) (op : Int32) (pl : Nat) (wl : Nat) (wc : Nat) (k : Nat) (g : Nat) (g0 : Nat) (g1 : Nat) (g2 : Nat) (g3 : Nat) (mc : Nat) (ru : Nat → Int32) (f : Nat) (fb : Int32) (fc : Nat) (fo : Int64) (qn0 : Nat) (qn1 : Nat) (qn2 : Nat) (qn3 : Nat) (zn : Nat) (ann : Int32) (ron : Nat → Int64) (rvn : Nat → Int32) (rdn : Nat → Int64) (rcn : Nat → Int32) (lw : Nat) (bk : Nat → Int32) (x : Nat) (y : Nat) (n : Nat) (dm : Int64) (sm : Nat) (Pr : Nat → Option ke_K) (KK : Nat → Option ke_K) (hxy : x < y) (hy1 : y * 4 + 3 < zn) (hzn : zn < 2 ^ 20) (hyp : y * 4 + 3 < pl) (hpl : pl < 2 ^ 20) (hn1 : 1 ≤ n) (hw9 : (n - 1) * pl + (y * 4 + 3) < lw) (hlw : lw < 2 ^ 30) (hfc : fc < 4) (hsm : sm < 2) (hps3 : ps ≤ 3) (hPr : ∀ c9, c9 < 4 → kv_ ron rvn rdn rcn (x * 4 + c9) (Pr c9)) (hPn : ∀ c9, c9 < 4 → ∀ z, Pr c9 = some z → z.2 ≤ 999) (hKK : ∀ c9, c9 < 4 → KK (8 * x + 4 * sm + c9) = (Pr c9).map (ke_st fo (pk_ov ps fb (ru 1)) dm (if pm_adj fc c9 then (ru 5).toInt64 else 0))) (hat : ke_at KK (8 * x + 4 * sm) (y * 4 + fc) ((n - 1) * pl + (y * 4 + fc)) ron rvn rdn rcn bk) (hka : ka_ pl ann rcn) : kx_Mv l yy_Se_extend ww_Se_extend ({ frames := 2, cells := 0, slots := 0, locals := 54 }) D vwCl (kx_ty cI cJ cZ) [.ref h, .ref v4, .int (nI x), .int (nI y), .int (nI n), .long dm, .int (nI sm)] [(h, .inr (7, [.ref g, .ref t, .ref k, .ref f, .ref v1, .ref v2, .ref v3, .ref v4, .int (nI ps), .int (nI ly), .int op, .int (nI pl), .int (nI wl), .int (nI wc), .ref v5, .ref v6, .ref v7])), (g, .inr (8, [.ref g0, .ref g1, .ref g2, .ref g3, .int (nI mc)])), (g0, .inl (cI, 9, .inl ru)), (f, .inr (3, [.int fb, .int (nI fc), .long fo])), (v4, .inr (6, [.int ann, .ref qn0, .ref qn1, .ref qn2, .ref qn3])), (qn0, .inl (cJ, zn, .inr (.inl ron))), (qn1, .inl (cI, zn, .inl rvn)), (qn2, .inl (cJ, zn, .inr (.inl rdn))), (qn3, .inl (cI, zn, .inl rcn)), (v7, .inl (cI, lw, .inl bk))] sz (fun (u : Int32 × (Nat → Int64) × (Nat → Int32) × (Nat → Int64) × (Nat → Int32) × (Nat → Int32)) => ke_at KK (8 * x + 4 * sm + 4) (y * 4 + fc) ((n - 1) * pl + (y * 4 + fc)) u.2.1 u.2.2.1 u.2.2.2.1 u.2.2.2.2.1 u.2.2.2.2.2 ∧ kf_ (y * 4 + fc) ron rvn rdn rcn u.2.1 u.2.2.1 u.2.2.2.1 u.2.2.2.2.1 ∧ (∀ q, ¬ q = (n - 1) * pl + (y * 4 + fc) → u.2.2.2.2.2 q = bk q) ∧ ka_ pl u.1 u.2.2.2.2.1) (fun (u : Int32 × (Nat → Int64) × (Nat → Int32) × (Nat → Int64) × (Nat → Int32) × (Nat → Int32)) => [(h, .inr (7, [.ref g, .ref t, .ref k, .ref f, .ref v1, .ref v2, .ref v3, .ref v4, .int (nI ps), .int (nI ly), .int op, .int (nI pl), .int (nI wl), .int (nI wc), .ref v5, .ref v6, .ref v7])), (g, .inr (8, [.ref g0, .ref g1, .ref g2, .ref g3, .int (nI mc)])), (g0, .inl (cI, 9, .inl ru)), (f, .inr (3, [.int fb, .int (nI fc), .long fo])), (v4, .inr (6, [.int u.1, .ref qn0, .ref qn1, .ref qn2, .ref qn3])), (qn0, .inl (cJ, zn, .inr (.inl u.2.1))), (qn1, .inl (cI, zn, .inl u.2.2.1)), (qn2, .inl (cJ, zn, .inr (.inl u.2.2.2.1))), (qn3, .inl (cI, zn, .inl u.2.2.2.2.1)), (v7, .inl (cI, lw, .inl u.2.2.2.2.2))]) 0 0 := by
  refine kx_startv (by decide) rfl (Nat.le_of_ble_eq_true rfl) ?_
  intro p e s m below meth c A ls hx hb hr hml hts hown hlocks hin hP hK hN hD hA hS hl
  have hl : lv_has ls 12 [(0, .ref h), (1, .ref v4), (2, .int (nI x)), (3, .int (nI y)), (4, .int (nI n)), (5, .long dm), (7, .int (nI sm))] := hl
  have hown : s.vm.findClass rr_Se = some m.cls := hown
  have lk0 := hts _ (kx_m kw_284)
  have hin7 : ∀ w ∈ u_ws rr_Se tt_Se 17, w ∈ ww_Se_extend := fun w h => kx_m (kf_Se w h)
  have lk2 := hts _ (kx_m kw_236)
  have hin3 : ∀ w ∈ u_ws rr_Ft tt_Ft 3, w ∈ ww_Se_extend := fun w h => kx_m (kf_Ft w h)
  have lk4 := hts _ (kx_m kw_289)
  have lk5 := hts _ (kx_m kw_233)
  have lk6 := hts _ (kx_m kw_278)
  have lk7 := hts _ (kx_m kw_102)
  have hin8 : ∀ w ∈ u_ws rr_Sg tt_Sg 5, w ∈ ww_Se_extend := fun w h => kx_m (kf_Sg w h)
  have lk9 := hts _ (kx_m kw_288)
  have lk10 := hts _ (kx_m kw_260)
  have hin6 : ∀ w ∈ u_ws rr_Rw tt_Rw 5, w ∈ ww_Se_extend := fun w h => kx_m (kf_Rw w h)
  have lk12 := hts _ (kx_m kw_239)
  have lk13 := hts _ (kx_m kw_262)
  have lk14 := hts _ (kx_m kw_264)
  have lk15 := hts _ (kx_m kw_266)
  have lk16 := hts _ (kx_m kw_297)
  have lk17 := hts _ (kx_m kw_292)
  obtain ⟨H, hH⟩ : ∃ H, H = s.heap := ⟨_, rfl⟩
  obtain ⟨locs, hlocs⟩ : ∃ z : List Loc, z = [] := ⟨_, rfl⟩
  have hP : va_P D vwCl [(h, .inr (7, [.ref g, .ref t, .ref k, .ref f, .ref v1, .ref v2, .ref v3, .ref v4, .int (nI ps), .int (nI ly), .int op, .int (nI pl), .int (nI wl), .int (nI wc), .ref v5, .ref v6, .ref v7])), (g, .inr (8, [.ref g0, .ref g1, .ref g2, .ref g3, .int (nI mc)])), (g0, .inl (cI, 9, .inl ru)), (f, .inr (3, [.int fb, .int (nI fc), .long fo])), (v4, .inr (6, [.int ann, .ref qn0, .ref qn1, .ref qn2, .ref qn3])), (qn0, .inl (cJ, zn, .inr (.inl ron))), (qn1, .inl (cI, zn, .inl rvn)), (qn2, .inl (cJ, zn, .inr (.inl rdn))), (qn3, .inl (cI, zn, .inl rcn)), (v7, .inl (cI, lw, .inl bk))] H := by rw [hH]; exact hP
  have hS : va_S A s.heap H locs := by rw [hH, hlocs]; exact hS
  refine kx_gen hH hlocs ?_
  clear hH hlocs
  refine kx_nameQ (fun Q hQ => ?_)
  refine lv_iload_n hx hb dd_Se_extend_0 rfl (lv_at hl 3 rfl) ?_
  refine lv_iconst (v := nI 4) hx hb dd_Se_extend_1 (by decide) ?_
  refine kx_imul hx hb dd_Se_extend_2 ?_
  refine lv_aload_n hx hb dd_Se_extend_3 rfl (lv_at hl 0 rfl) ?_
  refine va_get (D := D) (ci := 7) (v := .ref f) (C := rr_Se) (T := tt_Se) (N := 17) hx hb hts hin7 hown hK hP 0 kg_10_0 rfl 3 (by decide) lk0 (fun _ h9 => h9) rfl dd_Se_extend_4 ?_
  refine va_get (D := D) (ci := 3) (v := .int (nI fc)) (C := rr_Ft) (T := tt_Ft) (N := 3) hx hb hts hin3 hown hK hP 3 kg_10_3 rfl 1 (by decide) lk2 (fun _ h9 => h9) rfl dd_Se_extend_7 ?_
  refine kx_iadd hx hb dd_Se_extend_10 ?_
  refine lv_istore (lv' := [(8, .int (nI ((y * 4) + fc))), (0, .ref h), (1, .ref v4), (2, .int (nI x)), (3, .int (nI y)), (4, .int (nI n)), (5, .long dm), (7, .int (nI sm))]) hx hb dd_Se_extend_11 hl (by decide) rfl (fun ls hl => ?_)
  refine lv_aload_n hx hb dd_Se_extend_13 rfl (lv_at hl 1 rfl) ?_
  refine va_get (D := D) (ci := 7) (v := .int (nI ps)) (C := rr_Se) (T := tt_Se) (N := 17) hx hb hts hin7 hown hK hP 0 kg_10_0 rfl 8 (by decide) lk4 (fun _ h9 => h9) rfl dd_Se_extend_14 ?_
  refine lv_iconst (v := nI 3) hx hb dd_Se_extend_17 (by decide) ?_
  refine kx_joini (D := D) (cl := vwCl) (A := A) (ws := [(h, .inr (7, [.ref g, .ref t, .ref k, .ref f, .ref v1, .ref v2, .ref v3, .ref v4, .int (nI ps), .int (nI ly), .int op, .int (nI pl), .int (nI wl), .int (nI wc), .ref v5, .ref v6, .ref v7])), (g, .inr (8, [.ref g0, .ref g1, .ref g2, .ref g3, .int (nI mc)])), (g0, .inl (cI, 9, .inl ru)), (f, .inr (3, [.int fb, .int (nI fc), .long fo])), (v4, .inr (6, [.int ann, .ref qn0, .ref qn1, .ref qn2, .ref qn3])), (qn0, .inl (cJ, zn, .inr (.inl ron))), (qn1, .inl (cI, zn, .inl rvn)), (qn2, .inl (cJ, zn, .inr (.inl rdn))), (qn3, .inl (cI, zn, .inl rcn)), (v7, .inl (cI, lw, .inl bk))]) (Y := 45) (ls1 := ls) (st1 := []) (if ps = 3 then (if fb ≤ (ru 1) then (nI 0) else (nI 1)) else (nI 0)) (fun v45 H locs e_v45 hP hD hS => ?_) (fun K45 => ?_)
  · skip
    obtain rfl : v45 = nI (pk_ov ps fb (ru 1)) := by rw [e_v45]; unfold pk_ov pm_ab; (repeat' split) <;> first | rfl | contradiction
    refine lv_istore (lv' := [(9, .int (nI (pk_ov ps fb (ru 1)))), (8, .int (nI ((y * 4) + fc))), (0, .ref h), (1, .ref v4), (2, .int (nI x)), (3, .int (nI y)), (4, .int (nI n)), (5, .long dm), (7, .int (nI sm))]) hx hb dd_Se_extend_45 hl (by decide) rfl (fun ls hl => ?_)
    refine lv_iconst (v := nI 0) hx hb dd_Se_extend_47 (by decide) ?_
    refine lv_istore (lv' := [(10, .int (nI 0)), (9, .int (nI (pk_ov ps fb (ru 1)))), (8, .int (nI ((y * 4) + fc))), (0, .ref h), (1, .ref v4), (2, .int (nI x)), (3, .int (nI y)), (4, .int (nI n)), (5, .long dm), (7, .int (nI sm))]) hx hb dd_Se_extend_48 hl (by decide) rfl (fun ls hl => ?_)
    have lp50 : ∀ (N9_50 : Nat) (cx : Nat) (an1 : Int32) (ron1 : Nat → Int64) (rvn1 : Nat → Int32) (rdn1 : Nat → Int64) (rcn1 : Nat → Int32) (bk1 : Nat → Int32), (4 - cx) < N9_50 → (cx ≤ 4) → (ke_at KK (8 * x + 4 * sm + cx) (y * 4 + fc) ((n - 1) * pl + (y * 4 + fc)) ron1 rvn1 rdn1 rcn1 bk1) → (kf_ (y * 4 + fc) ron rvn rdn rcn ron1 rvn1 rdn1 rcn1) → (∀ q, ¬ q = (n - 1) * pl + (y * 4 + fc) → bk1 q = bk q) → (ka_ pl an1 rcn1) → ∀ (H : Heap) (locs : List Loc), va_P D vwCl [(h, .inr (7, [.ref g, .ref t, .ref k, .ref f, .ref v1, .ref v2, .ref v3, .ref v4, .int (nI ps), .int (nI ly), .int op, .int (nI pl), .int (nI wl), .int (nI wc), .ref v5, .ref v6, .ref v7])), (g, .inr (8, [.ref g0, .ref g1, .ref g2, .ref g3, .int (nI mc)])), (g0, .inl (cI, 9, .inl ru)), (f, .inr (3, [.int fb, .int (nI fc), .long fo])), (v4, .inr (6, [.int an1, .ref qn0, .ref qn1, .ref qn2, .ref qn3])), (qn0, .inl (cJ, zn, .inr (.inl ron1))), (qn1, .inl (cI, zn, .inl rvn1)), (qn2, .inl (cJ, zn, .inr (.inl rdn1))), (qn3, .inl (cI, zn, .inl rcn1)), (v7, .inl (cI, lw, .inl bk1))] H → va_D A [(h, .inr (7, [.ref g, .ref t, .ref k, .ref f, .ref v1, .ref v2, .ref v3, .ref v4, .int (nI ps), .int (nI ly), .int op, .int (nI pl), .int (nI wl), .int (nI wc), .ref v5, .ref v6, .ref v7])), (g, .inr (8, [.ref g0, .ref g1, .ref g2, .ref g3, .int (nI mc)])), (g0, .inl (cI, 9, .inl ru)), (f, .inr (3, [.int fb, .int (nI fc), .long fo])), (v4, .inr (6, [.int an1, .ref qn0, .ref qn1, .ref qn2, .ref qn3])), (qn0, .inl (cJ, zn, .inr (.inl ron1))), (qn1, .inl (cI, zn, .inl rvn1)), (qn2, .inl (cJ, zn, .inr (.inl rdn1))), (qn3, .inl (cI, zn, .inl rcn1)), (v7, .inl (cI, lw, .inl bk1))] → va_S A s.heap H locs → ∀ (ls : Array Slot), lv_has ls 12 [(0, .ref h), (1, .ref v4), (2, .int (nI x)), (3, .int (nI y)), (4, .int (nI n)), (5, .long dm), (7, .int (nI sm)), (8, .int (nI (y * 4 + fc))), (9, .int (nI (pk_ov ps fb (ru 1)))), (10, .int (nI cx))] → W p l e (headSpec ww_Se_extend { frames := 2, cells := 0, slots := 0, locals := 54 }).room s m ([.ref h, .ref v4, .int (nI x), .int (nI y), .int (nI n), .long dm, .int (nI sm)] : List Value).toArray below meth c H locs 0 0 Q (F0 m 50 ls []) := by
      clear hP hD hS hl
      intro N9_50
      induction N9_50 with
      | zero => intro _ _ _ _ _ _ _ h9; exact absurd h9 (Nat.not_lt_zero _)
      | succ N9_50 ih_50 =>
        intro cx an1 ron1 rvn1 rdn1 rcn1 bk1 hμ_50 hcx hat1 hkf hkb hka1 H locs hP hD hS ls hl
        refine lv_iload hx hb dd_Se_extend_50 (lv_at hl 9 rfl) ?_
        refine lv_iconst (v := nI 4) hx hb dd_Se_extend_52 (by decide) ?_
        refine lv_icmp_ge (tgt := 166) hx hb dd_Se_extend_53 (by decide) (fun c53 => ?_) (fun c53 => ?_)
        · skip
          have c53 : 4 ≤ cx := (nI_leI (by omega) (by omega)).mp c53
          rw [hQ]
          exact kx_vret hx hb hr hlocks hK hN hS dd_Se_extend_166 (an1, ron1, rvn1, rdn1, rcn1, bk1) hP hD (by have h8 : cx = 4 := (by omega); rw [h8] at hat1; exact ⟨hat1, hkf, hkb, hka1⟩)
        · skip
          have c53 : ¬ (4 ≤ cx) := fun h => c53 ((nI_leI (by omega) (by omega)).mpr h)
          refine lv_iload_n hx hb dd_Se_extend_56 rfl (lv_at hl 2 rfl) ?_
          refine lv_iconst (v := nI 4) hx hb dd_Se_extend_57 (by decide) ?_
          refine kx_imul hx hb dd_Se_extend_58 ?_
          refine lv_iload hx hb dd_Se_extend_59 (lv_at hl 9 rfl) ?_
          refine kx_iadd hx hb dd_Se_extend_61 ?_
          refine lv_istore (lv' := [(11, .int (nI ((x * 4) + cx))), (0, .ref h), (1, .ref v4), (2, .int (nI x)), (3, .int (nI y)), (4, .int (nI n)), (5, .long dm), (7, .int (nI sm)), (8, .int (nI (y * 4 + fc))), (9, .int (nI (pk_ov ps fb (ru 1)))), (10, .int (nI cx))]) hx hb dd_Se_extend_62 hl (by decide) rfl (fun ls hl => ?_)
          refine lv_aload_n hx hb dd_Se_extend_64 rfl (lv_at hl 2 rfl) ?_
          refine lv_iload hx hb dd_Se_extend_65 (lv_at hl 0 rfl) ?_
          refine kx_calli (wr := [(h, .inr (7, [.ref g, .ref t, .ref k, .ref f, .ref v1, .ref v2, .ref v3, .ref v4, .int (nI ps), .int (nI ly), .int op, .int (nI pl), .int (nI wl), .int (nI wc), .ref v5, .ref v6, .ref v7])), (g, .inr (8, [.ref g0, .ref g1, .ref g2, .ref g3, .int (nI mc)])), (g0, .inl (cI, 9, .inl ru)), (f, .inr (3, [.int fb, .int (nI fc), .long fo])), (qn0, .inl (cJ, zn, .inr (.inl ron1))), (qn1, .inl (cI, zn, .inl rvn1)), (qn2, .inl (cJ, zn, .inr (.inl rdn1))), (v7, .inl (cI, lw, .inl bk1))]) (va_runV (C := rr_Rw) (As := [.int (nI ((x * 4) + cx))]) (rest := []) ⟨hx, hb, hml, hown, hts⟩ (ct_Rw_has l D cI cJ cZ H.size v4 qn0 qn1 qn2 qn3 zn an1 rcn1 ((x * 4) + cx) (by omega) (by omega)) ⟨(callB_of 1 hts (kx_good kw_661) rfl rfl rfl (hts _ (kx_m kw_51)) (hts _ (kx_m kw_728)) (by decide +kernel) ⟨Nat.le_of_ble_eq_true rfl, Nat.le_of_ble_eq_true rfl⟩), (hts _ (kx_m kw_659)), (hts _ (kx_m kw_660))⟩ (kx_preV (ci := 6) (q0 := 0) hK hN (hP.sub [4, 8] kt_10_4_8) (hD.sub [4, 8] (by decide) ks_10_4_8) rfl kg_2_0) rfl rfl hl.1 rfl (lv_room (Nat.le_of_ble_eq_true rfl)) dd_Se_extend_67 ⟨Nat.le_of_ble_eq_true rfl, Nat.le_of_ble_eq_true rfl⟩) hP hD hS hA [4, 8] [0, 1, 2, 3, 5, 6, 7, 9] ks_10_4_8 ks_10_0_1_2_3_5_6_7_9 (by decide) (by decide) (fun r67 u67 H locs hw67 hP hD hS => ?_)
          have hP : va_P D vwCl [(h, .inr (7, [.ref g, .ref t, .ref k, .ref f, .ref v1, .ref v2, .ref v3, .ref v4, .int (nI ps), .int (nI ly), .int op, .int (nI pl), .int (nI wl), .int (nI wc), .ref v5, .ref v6, .ref v7])), (g, .inr (8, [.ref g0, .ref g1, .ref g2, .ref g3, .int (nI mc)])), (g0, .inl (cI, 9, .inl ru)), (f, .inr (3, [.int fb, .int (nI fc), .long fo])), (qn0, .inl (cJ, zn, .inr (.inl ron1))), (qn1, .inl (cI, zn, .inl rvn1)), (qn2, .inl (cJ, zn, .inr (.inl rdn1))), (v7, .inl (cI, lw, .inl bk1)), (v4, .inr (6, [.int an1, .ref qn0, .ref qn1, .ref qn2, .ref qn3])), (qn3, .inl (cI, zn, .inl rcn1))] H := hP
          have hD : va_D A [(h, .inr (7, [.ref g, .ref t, .ref k, .ref f, .ref v1, .ref v2, .ref v3, .ref v4, .int (nI ps), .int (nI ly), .int op, .int (nI pl), .int (nI wl), .int (nI wc), .ref v5, .ref v6, .ref v7])), (g, .inr (8, [.ref g0, .ref g1, .ref g2, .ref g3, .int (nI mc)])), (g0, .inl (cI, 9, .inl ru)), (f, .inr (3, [.int fb, .int (nI fc), .long fo])), (qn0, .inl (cJ, zn, .inr (.inl ron1))), (qn1, .inl (cI, zn, .inl rvn1)), (qn2, .inl (cJ, zn, .inr (.inl rdn1))), (v7, .inl (cI, lw, .inl bk1)), (v4, .inr (6, [.int an1, .ref qn0, .ref qn1, .ref qn2, .ref qn3])), (qn3, .inl (cI, zn, .inl rcn1))] := hD
          have hP : va_P D vwCl [(h, .inr (7, [.ref g, .ref t, .ref k, .ref f, .ref v1, .ref v2, .ref v3, .ref v4, .int (nI ps), .int (nI ly), .int op, .int (nI pl), .int (nI wl), .int (nI wc), .ref v5, .ref v6, .ref v7])), (g, .inr (8, [.ref g0, .ref g1, .ref g2, .ref g3, .int (nI mc)])), (g0, .inl (cI, 9, .inl ru)), (f, .inr (3, [.int fb, .int (nI fc), .long fo])), (v4, .inr (6, [.int an1, .ref qn0, .ref qn1, .ref qn2, .ref qn3])), (qn0, .inl (cJ, zn, .inr (.inl ron1))), (qn1, .inl (cI, zn, .inl rvn1)), (qn2, .inl (cJ, zn, .inr (.inl rdn1))), (qn3, .inl (cI, zn, .inl rcn1)), (v7, .inl (cI, lw, .inl bk1))] H := hP.sub [0, 1, 2, 3, 8, 4, 5, 6, 9, 7] kt_10_0_1_2_3_8_4_5_6_9_7
          have hD : va_D A [(h, .inr (7, [.ref g, .ref t, .ref k, .ref f, .ref v1, .ref v2, .ref v3, .ref v4, .int (nI ps), .int (nI ly), .int op, .int (nI pl), .int (nI wl), .int (nI wc), .ref v5, .ref v6, .ref v7])), (g, .inr (8, [.ref g0, .ref g1, .ref g2, .ref g3, .int (nI mc)])), (g0, .inl (cI, 9, .inl ru)), (f, .inr (3, [.int fb, .int (nI fc), .long fo])), (v4, .inr (6, [.int an1, .ref qn0, .ref qn1, .ref qn2, .ref qn3])), (qn0, .inl (cJ, zn, .inr (.inl ron1))), (qn1, .inl (cI, zn, .inl rvn1)), (qn2, .inl (cJ, zn, .inr (.inl rdn1))), (qn3, .inl (cI, zn, .inl rcn1)), (v7, .inl (cI, lw, .inl bk1))] := hD.sub [0, 1, 2, 3, 8, 4, 5, 6, 9, 7] (by decide) ks_10_0_1_2_3_8_4_5_6_9_7
          have hw67 : r67 = kb_p (¬ rcn1 ((x * 4) + cx) = (-1)) := hw67
          subst hw67
          refine lv_if_eq (tgt := 160) hx hb dd_Se_extend_70 (by decide) (fun c70 => ?_) (fun c70 => ?_)
          · skip
            have c70 : ¬ (¬ rcn1 ((x * 4) + cx) = (-1)) := kb_0.mp c70
            have hPc := hPr cx (by omega)
            have hPc := kv_fr hkf (show ¬ x * 4 + cx = y * 4 + fc by omega) hPc
            have hKn : KK (8 * x + 4 * sm + cx) = none := by rw [hKK cx (by omega), (ke_has hPc).mp (Decidable.not_not.mp c70)]; rfl
            refine lv_iinc (v := nI (cx + 1)) (lv' := [(10, .int (nI (cx + 1))), (11, .int (nI ((x * 4) + cx))), (0, .ref h), (1, .ref v4), (2, .int (nI x)), (3, .int (nI y)), (4, .int (nI n)), (5, .long dm), (7, .int (nI sm)), (8, .int (nI (y * 4 + fc))), (9, .int (nI (pk_ov ps fb (ru 1))))]) hx hb dd_Se_extend_160 hl (k := 10) rfl (nI_add cx 1) (by decide) rfl (fun ls hl => ?_)
            refine lv_goto (tgt := 50) hx hb dd_Se_extend_163 (by decide) ?_
            exact ih_50 (cx + 1) an1 ron1 rvn1 rdn1 rcn1 bk1 (by omega) (by omega) (by first | exact ke_at_n hat1 hKn | (rw [e2, e3, e4, e5]; exact ke_at_k hat1 hKs hz9 hcd) | (rw [e2, e3, e4, e5]; exact ke_at_y hat1 hKs hz9 hcd (by rw [ke_en_at (by omega) hsm]))) (by first | exact hkf | (rw [e2, e3, e4, e5]; first | exact hkf | exact kf_y hkf)) (by first | exact hkb | exact fun q hq => by rw [show upd bk1 ((n - 1) * pl + (y * 4 + fc)) _ q = bk1 q from if_neg hq]; exact hkb q hq) (by first | exact hka1 | (rw [e1, e5]; first | exact hka1 | exact ka_y (by omega) hz9)) H locs hP hD hS ls (lv_sub hl [2, 3, 4, 5, 6, 7, 8, 9, 10, 0] rfl)
          · skip
            have c70 : ¬ rcn1 ((x * 4) + cx) = (-1) := kb_1.mp c70
            have hPc := hPr cx (by omega)
            have hPc := kv_fr hkf (show ¬ x * 4 + cx = y * 4 + fc by omega) hPc
            obtain ⟨z9, hz0⟩ : ∃ z, Pr cx = some z := by cases h9 : Pr cx with | none => exact absurd ((ke_has hPc).mpr h9) c70 | some z => exact ⟨z, rfl⟩
            have hzn := hPn cx (by omega) z9 hz0
            rw [hz0] at hPc
            obtain ⟨hp0, hp1, hp2, hp3, hp4⟩ := hPc
            have hKs : KK (8 * x + 4 * sm + cx) = some (ke_st fo (pk_ov ps fb (ru 1)) dm (if pm_adj fc cx then (ru 5).toInt64 else 0) z9) := by rw [hKK cx (by omega), hz0]; rfl
            have hz9 : z9.2 + 1 ≤ 1000 := by omega
            have hnc : rcn1 (x * 4 + cx) + nI 1 = nI (z9.2 + 1) := by rw [hp1, nI_add]
            refine lv_aload_n hx hb dd_Se_extend_73 rfl (lv_at hl 1 rfl) ?_
            refine va_get (D := D) (ci := 7) (v := .ref v4) (C := rr_Se) (T := tt_Se) (N := 17) hx hb hts hin7 hown hK hP 0 kg_10_0 rfl 7 (by decide) lk9 (fun _ h9 => h9) rfl dd_Se_extend_74 ?_
            refine lv_iload hx hb dd_Se_extend_77 (lv_at hl 8 rfl) ?_
            refine lv_aload_n hx hb dd_Se_extend_79 rfl (lv_at hl 2 rfl) ?_
            refine va_get (D := D) (ci := 6) (v := .ref qn0) (C := rr_Rw) (T := tt_Rw) (N := 5) hx hb hts hin6 hown hK hP 4 kg_10_4 rfl 1 (by decide) lk10 (fun _ h9 => h9) rfl dd_Se_extend_80 ?_
            refine lv_iload hx hb dd_Se_extend_83 (lv_at hl 0 rfl) ?_
            refine kx_lald (q0 := 5) (t0 := 1) hx hb dd_Se_extend_85 hK hP kg_10_5 rfl (by omega) (by omega) ?_
            refine lv_aload_n hx hb dd_Se_extend_86 rfl (lv_at hl 1 rfl) ?_
            refine va_get (D := D) (ci := 7) (v := .ref f) (C := rr_Se) (T := tt_Se) (N := 17) hx hb hts hin7 hown hK hP 0 kg_10_0 rfl 3 (by decide) lk0 (fun _ h9 => h9) rfl dd_Se_extend_87 ?_
            refine va_get (D := D) (ci := 3) (v := .long fo) (C := rr_Ft) (T := tt_Ft) (N := 3) hx hb hts hin3 hown hK hP 3 kg_10_3 rfl 2 (by decide) lk12 (fun _ h9 => h9) rfl dd_Se_extend_90 ?_
            refine lv_ladd hx hb dd_Se_extend_93 ?_
            refine lv_aload_n hx hb dd_Se_extend_94 rfl (lv_at hl 2 rfl) ?_
            refine va_get (D := D) (ci := 6) (v := .ref qn1) (C := rr_Rw) (T := tt_Rw) (N := 5) hx hb hts hin6 hown hK hP 4 kg_10_4 rfl 2 (by decide) lk13 (fun _ h9 => h9) rfl dd_Se_extend_95 ?_
            refine lv_iload hx hb dd_Se_extend_98 (lv_at hl 0 rfl) ?_
            refine kx_iald (q0 := 6) (t0 := 0) hx hb dd_Se_extend_100 hK hP kg_10_6 rfl (by omega) (by omega) ?_
            refine lv_iload hx hb dd_Se_extend_101 (lv_at hl 9 rfl) ?_
            refine lv_iadd hx hb dd_Se_extend_103 ?_
            refine lv_aload_n hx hb dd_Se_extend_104 rfl (lv_at hl 2 rfl) ?_
            refine va_get (D := D) (ci := 6) (v := .ref qn2) (C := rr_Rw) (T := tt_Rw) (N := 5) hx hb hts hin6 hown hK hP 4 kg_10_4 rfl 3 (by decide) lk14 (fun _ h9 => h9) rfl dd_Se_extend_105 ?_
            refine lv_iload hx hb dd_Se_extend_108 (lv_at hl 0 rfl) ?_
            refine kx_lald (q0 := 7) (t0 := 1) hx hb dd_Se_extend_110 hK hP kg_10_7 rfl (by omega) (by omega) ?_
            refine lv_lload hx hb dd_Se_extend_111 (lv_at hl 6 rfl) ?_
            refine lv_ladd hx hb dd_Se_extend_113 ?_
            refine lv_aload_n hx hb dd_Se_extend_114 rfl (lv_at hl 1 rfl) ?_
            refine lv_iload hx hb dd_Se_extend_115 (lv_at hl 10 rfl) ?_
            refine kx_calll (wr := [(v4, .inr (6, [.int an1, .ref qn0, .ref qn1, .ref qn2, .ref qn3])), (qn0, .inl (cJ, zn, .inr (.inl ron1))), (qn1, .inl (cI, zn, .inl rvn1)), (qn2, .inl (cJ, zn, .inr (.inl rdn1))), (qn3, .inl (cI, zn, .inl rcn1)), (v7, .inl (cI, lw, .inl bk1))]) (va_runV (C := rr_Se) (As := [.int (nI cx)]) (rest := [.long ((rdn1 ((x * 4) + cx)) + dm), .int ((rvn1 ((x * 4) + cx)) + (nI (pk_ov ps fb (ru 1)))), .long ((ron1 ((x * 4) + cx)) + fo), .int (nI (y * 4 + fc)), .ref v4]) ⟨hx, hb, hml, hown, hts⟩ (ct_Se_adjacentTo l D cI cJ cZ H.size h t v1 v2 v3 v4 v5 v6 v7 ps ly op pl wl wc k g g0 g1 g2 g3 mc ru f fb fc fo cx (by omega) (by omega)) ⟨(callB_of 1 hts (kx_good kw_732) rfl rfl rfl (hts _ (kx_m kw_48)) (hts _ (kx_m kw_729)) (by decide +kernel) ⟨Nat.le_of_ble_eq_true rfl, Nat.le_of_ble_eq_true rfl⟩), (hts _ (kx_m kw_731)), (hts _ (kx_m kw_19))⟩ (kx_preV (ci := 7) (q0 := 0) hK hN (hP.sub [0, 1, 2, 3] kt_10_0_1_2_3) (hD.sub [0, 1, 2, 3] (by decide) ks_10_0_1_2_3) rfl kg_4_0) rfl rfl hl.1 rfl (lv_room (Nat.le_of_ble_eq_true rfl)) dd_Se_extend_117 ⟨Nat.le_of_ble_eq_true rfl, Nat.le_of_ble_eq_true rfl⟩) hP hD hS hA [0, 1, 2, 3] [4, 5, 6, 7, 8, 9] ks_10_0_1_2_3 ks_10_4_5_6_7_8_9 (by decide) (by decide) (fun r117 u117 H locs hw117 hP hD hS => ?_)
            have hP : va_P D vwCl [(v4, .inr (6, [.int an1, .ref qn0, .ref qn1, .ref qn2, .ref qn3])), (qn0, .inl (cJ, zn, .inr (.inl ron1))), (qn1, .inl (cI, zn, .inl rvn1)), (qn2, .inl (cJ, zn, .inr (.inl rdn1))), (qn3, .inl (cI, zn, .inl rcn1)), (v7, .inl (cI, lw, .inl bk1)), (h, .inr (7, [.ref g, .ref t, .ref k, .ref f, .ref v1, .ref v2, .ref v3, .ref v4, .int (nI ps), .int (nI ly), .int op, .int (nI pl), .int (nI wl), .int (nI wc), .ref v5, .ref v6, .ref v7])), (g, .inr (8, [.ref g0, .ref g1, .ref g2, .ref g3, .int (nI mc)])), (g0, .inl (cI, 9, .inl ru)), (f, .inr (3, [.int fb, .int (nI fc), .long fo]))] H := hP
            have hD : va_D A [(v4, .inr (6, [.int an1, .ref qn0, .ref qn1, .ref qn2, .ref qn3])), (qn0, .inl (cJ, zn, .inr (.inl ron1))), (qn1, .inl (cI, zn, .inl rvn1)), (qn2, .inl (cJ, zn, .inr (.inl rdn1))), (qn3, .inl (cI, zn, .inl rcn1)), (v7, .inl (cI, lw, .inl bk1)), (h, .inr (7, [.ref g, .ref t, .ref k, .ref f, .ref v1, .ref v2, .ref v3, .ref v4, .int (nI ps), .int (nI ly), .int op, .int (nI pl), .int (nI wl), .int (nI wc), .ref v5, .ref v6, .ref v7])), (g, .inr (8, [.ref g0, .ref g1, .ref g2, .ref g3, .int (nI mc)])), (g0, .inl (cI, 9, .inl ru)), (f, .inr (3, [.int fb, .int (nI fc), .long fo]))] := hD
            have hP : va_P D vwCl [(h, .inr (7, [.ref g, .ref t, .ref k, .ref f, .ref v1, .ref v2, .ref v3, .ref v4, .int (nI ps), .int (nI ly), .int op, .int (nI pl), .int (nI wl), .int (nI wc), .ref v5, .ref v6, .ref v7])), (g, .inr (8, [.ref g0, .ref g1, .ref g2, .ref g3, .int (nI mc)])), (g0, .inl (cI, 9, .inl ru)), (f, .inr (3, [.int fb, .int (nI fc), .long fo])), (v4, .inr (6, [.int an1, .ref qn0, .ref qn1, .ref qn2, .ref qn3])), (qn0, .inl (cJ, zn, .inr (.inl ron1))), (qn1, .inl (cI, zn, .inl rvn1)), (qn2, .inl (cJ, zn, .inr (.inl rdn1))), (qn3, .inl (cI, zn, .inl rcn1)), (v7, .inl (cI, lw, .inl bk1))] H := hP.sub [6, 7, 8, 9, 0, 1, 2, 3, 4, 5] kt_10_6_7_8_9_0_1_2_3_4_5
            have hD : va_D A [(h, .inr (7, [.ref g, .ref t, .ref k, .ref f, .ref v1, .ref v2, .ref v3, .ref v4, .int (nI ps), .int (nI ly), .int op, .int (nI pl), .int (nI wl), .int (nI wc), .ref v5, .ref v6, .ref v7])), (g, .inr (8, [.ref g0, .ref g1, .ref g2, .ref g3, .int (nI mc)])), (g0, .inl (cI, 9, .inl ru)), (f, .inr (3, [.int fb, .int (nI fc), .long fo])), (v4, .inr (6, [.int an1, .ref qn0, .ref qn1, .ref qn2, .ref qn3])), (qn0, .inl (cJ, zn, .inr (.inl ron1))), (qn1, .inl (cI, zn, .inl rvn1)), (qn2, .inl (cJ, zn, .inr (.inl rdn1))), (qn3, .inl (cI, zn, .inl rcn1)), (v7, .inl (cI, lw, .inl bk1))] := hD.sub [6, 7, 8, 9, 0, 1, 2, 3, 4, 5] (by decide) ks_10_6_7_8_9_0_1_2_3_4_5
            have hw117 : r117 = if pm_adj fc cx then (ru 5).toInt64 else 0 := hw117
            subst hw117
            refine lv_ladd hx hb dd_Se_extend_120 ?_
            refine lv_aload_n hx hb dd_Se_extend_121 rfl (lv_at hl 2 rfl) ?_
            refine va_get (D := D) (ci := 6) (v := .ref qn3) (C := rr_Rw) (T := tt_Rw) (N := 5) hx hb hts hin6 hown hK hP 4 kg_10_4 rfl 4 (by decide) lk15 (fun _ h9 => h9) rfl dd_Se_extend_122 ?_
            refine lv_iload hx hb dd_Se_extend_125 (lv_at hl 0 rfl) ?_
            refine kx_iald (q0 := 8) (t0 := 0) hx hb dd_Se_extend_127 hK hP kg_10_8 rfl (by omega) (by omega) ?_
            refine lv_iconst (v := nI 1) hx hb dd_Se_extend_128 (by decide) ?_
            refine lv_iadd hx hb dd_Se_extend_129 ?_
            refine kx_calli (wr := [(h, .inr (7, [.ref g, .ref t, .ref k, .ref f, .ref v1, .ref v2, .ref v3, .ref v4, .int (nI ps), .int (nI ly), .int op, .int (nI pl), .int (nI wl), .int (nI wc), .ref v5, .ref v6, .ref v7])), (g, .inr (8, [.ref g0, .ref g1, .ref g2, .ref g3, .int (nI mc)])), (g0, .inl (cI, 9, .inl ru)), (f, .inr (3, [.int fb, .int (nI fc), .long fo])), (v7, .inl (cI, lw, .inl bk1))]) (va_runV (C := rr_Rw) (As := [.int (nI (y * 4 + fc)), .long ((ron1 ((x * 4) + cx)) + fo), .int ((rvn1 ((x * 4) + cx)) + (nI (pk_ov ps fb (ru 1)))), .long (((rdn1 ((x * 4) + cx)) + dm) + (if pm_adj fc cx then (ru 5).toInt64 else 0)), .int ((rcn1 ((x * 4) + cx)) + (nI 1))]) (rest := []) ⟨hx, hb, hml, hown, hts⟩ (ct_Rw_offer l D cI cJ cZ H.size v4 qn0 qn1 qn2 qn3 zn an1 ron1 rvn1 rdn1 rcn1 (y * 4 + fc) ((ron1 ((x * 4) + cx)) + fo) ((rvn1 ((x * 4) + cx)) + (nI (pk_ov ps fb (ru 1)))) (((rdn1 ((x * 4) + cx)) + dm) + (if pm_adj fc cx then (ru 5).toInt64 else 0)) ((rcn1 ((x * 4) + cx)) + (nI 1)) (by omega) (by omega)) ⟨(callB_of 5 hts (kx_good kw_657) rfl rfl rfl (hts _ (kx_m kw_51)) (hts _ (kx_m kw_654)) (by decide +kernel) ⟨Nat.le_of_ble_eq_true rfl, Nat.le_of_ble_eq_true rfl⟩), (hts _ (kx_m kw_655)), (hts _ (kx_m kw_656))⟩ (kx_preV (ci := 6) (q0 := 0) hK hN (hP.sub [4, 5, 6, 7, 8] kt_10_4_5_6_7_8) (hD.sub [4, 5, 6, 7, 8] (by decide) ks_10_4_5_6_7_8) rfl kg_5_0) rfl rfl hl.1 rfl (lv_room (Nat.le_of_ble_eq_true rfl)) dd_Se_extend_130 ⟨Nat.le_of_ble_eq_true rfl, Nat.le_of_ble_eq_true rfl⟩) hP hD hS hA [4, 5, 6, 7, 8] [0, 1, 2, 3, 9] ks_10_4_5_6_7_8 ks_10_0_1_2_3_9 (by decide) (by decide) (fun r130 u130 H locs hw130 hP hD hS => ?_)
            obtain ⟨an2_130, ro2_130, rv2_130, rd2_130, rc2_130⟩ := u130
            have hP : va_P D vwCl [(h, .inr (7, [.ref g, .ref t, .ref k, .ref f, .ref v1, .ref v2, .ref v3, .ref v4, .int (nI ps), .int (nI ly), .int op, .int (nI pl), .int (nI wl), .int (nI wc), .ref v5, .ref v6, .ref v7])), (g, .inr (8, [.ref g0, .ref g1, .ref g2, .ref g3, .int (nI mc)])), (g0, .inl (cI, 9, .inl ru)), (f, .inr (3, [.int fb, .int (nI fc), .long fo])), (v7, .inl (cI, lw, .inl bk1)), (v4, .inr (6, [.int an2_130, .ref qn0, .ref qn1, .ref qn2, .ref qn3])), (qn0, .inl (cJ, zn, .inr (.inl ro2_130))), (qn1, .inl (cI, zn, .inl rv2_130)), (qn2, .inl (cJ, zn, .inr (.inl rd2_130))), (qn3, .inl (cI, zn, .inl rc2_130))] H := hP
            have hD : va_D A [(h, .inr (7, [.ref g, .ref t, .ref k, .ref f, .ref v1, .ref v2, .ref v3, .ref v4, .int (nI ps), .int (nI ly), .int op, .int (nI pl), .int (nI wl), .int (nI wc), .ref v5, .ref v6, .ref v7])), (g, .inr (8, [.ref g0, .ref g1, .ref g2, .ref g3, .int (nI mc)])), (g0, .inl (cI, 9, .inl ru)), (f, .inr (3, [.int fb, .int (nI fc), .long fo])), (v7, .inl (cI, lw, .inl bk1)), (v4, .inr (6, [.int an2_130, .ref qn0, .ref qn1, .ref qn2, .ref qn3])), (qn0, .inl (cJ, zn, .inr (.inl ro2_130))), (qn1, .inl (cI, zn, .inl rv2_130)), (qn2, .inl (cJ, zn, .inr (.inl rd2_130))), (qn3, .inl (cI, zn, .inl rc2_130))] := hD
            have hP : va_P D vwCl [(h, .inr (7, [.ref g, .ref t, .ref k, .ref f, .ref v1, .ref v2, .ref v3, .ref v4, .int (nI ps), .int (nI ly), .int op, .int (nI pl), .int (nI wl), .int (nI wc), .ref v5, .ref v6, .ref v7])), (g, .inr (8, [.ref g0, .ref g1, .ref g2, .ref g3, .int (nI mc)])), (g0, .inl (cI, 9, .inl ru)), (f, .inr (3, [.int fb, .int (nI fc), .long fo])), (v4, .inr (6, [.int an2_130, .ref qn0, .ref qn1, .ref qn2, .ref qn3])), (qn0, .inl (cJ, zn, .inr (.inl ro2_130))), (qn1, .inl (cI, zn, .inl rv2_130)), (qn2, .inl (cJ, zn, .inr (.inl rd2_130))), (qn3, .inl (cI, zn, .inl rc2_130)), (v7, .inl (cI, lw, .inl bk1))] H := hP.sub [0, 1, 2, 3, 5, 6, 7, 8, 9, 4] kt_10_0_1_2_3_5_6_7_8_9_4
            have hD : va_D A [(h, .inr (7, [.ref g, .ref t, .ref k, .ref f, .ref v1, .ref v2, .ref v3, .ref v4, .int (nI ps), .int (nI ly), .int op, .int (nI pl), .int (nI wl), .int (nI wc), .ref v5, .ref v6, .ref v7])), (g, .inr (8, [.ref g0, .ref g1, .ref g2, .ref g3, .int (nI mc)])), (g0, .inl (cI, 9, .inl ru)), (f, .inr (3, [.int fb, .int (nI fc), .long fo])), (v4, .inr (6, [.int an2_130, .ref qn0, .ref qn1, .ref qn2, .ref qn3])), (qn0, .inl (cJ, zn, .inr (.inl ro2_130))), (qn1, .inl (cI, zn, .inl rv2_130)), (qn2, .inl (cJ, zn, .inr (.inl rd2_130))), (qn3, .inl (cI, zn, .inl rc2_130)), (v7, .inl (cI, lw, .inl bk1))] := hD.sub [0, 1, 2, 3, 5, 6, 7, 8, 9, 4] (by decide) ks_10_0_1_2_3_5_6_7_8_9_4
            obtain ⟨rfl, hw130⟩ := hw130
            have hw130 : (if rcn1 (y * 4 + fc) = (-1) ∨ pk_bt ((ron1 ((x * 4) + cx)) + fo) (ron1 (y * 4 + fc)) ((rvn1 ((x * 4) + cx)) + (nI (pk_ov ps fb (ru 1)))) (rvn1 (y * 4 + fc)) (((rdn1 ((x * 4) + cx)) + dm) + (if pm_adj fc cx then (ru 5).toInt64 else 0)) (rdn1 (y * 4 + fc)) ((rcn1 ((x * 4) + cx)) + (nI 1)) (rcn1 (y * 4 + fc)) then an2_130 = nI 1 ∧ ro2_130 = vp_updL ron1 (y * 4 + fc) ((ron1 ((x * 4) + cx)) + fo) ∧ rv2_130 = upd rvn1 (y * 4 + fc) ((rvn1 ((x * 4) + cx)) + (nI (pk_ov ps fb (ru 1)))) ∧ rd2_130 = vp_updL rdn1 (y * 4 + fc) (((rdn1 ((x * 4) + cx)) + dm) + (if pm_adj fc cx then (ru 5).toInt64 else 0)) ∧ rc2_130 = upd rcn1 (y * 4 + fc) ((rcn1 ((x * 4) + cx)) + (nI 1)) else an2_130 = an1 ∧ ro2_130 = ron1 ∧ rv2_130 = rvn1 ∧ rd2_130 = rdn1 ∧ rc2_130 = rcn1) := hw130
            refine lv_if_eq (tgt := 160) hx hb dd_Se_extend_133 (by decide) (fun c133 => ?_) (fun c133 => ?_)
            · skip
              have c133 : ¬ (rcn1 (y * 4 + fc) = (-1) ∨ pk_bt ((ron1 ((x * 4) + cx)) + fo) (ron1 (y * 4 + fc)) ((rvn1 ((x * 4) + cx)) + (nI (pk_ov ps fb (ru 1)))) (rvn1 (y * 4 + fc)) (((rdn1 ((x * 4) + cx)) + dm) + (if pm_adj fc cx then (ru 5).toInt64 else 0)) (rdn1 (y * 4 + fc)) ((rcn1 ((x * 4) + cx)) + (nI 1)) (rcn1 (y * 4 + fc))) := kb_0.mp c133
              have hcd := c133
              rw [hp2, hp3, hp4, hnc] at hcd hw130
              rw [if_neg hcd] at hw130
              obtain ⟨e1, e2, e3, e4, e5⟩ := hw130
              refine lv_iinc (v := nI (cx + 1)) (lv' := [(10, .int (nI (cx + 1))), (11, .int (nI ((x * 4) + cx))), (0, .ref h), (1, .ref v4), (2, .int (nI x)), (3, .int (nI y)), (4, .int (nI n)), (5, .long dm), (7, .int (nI sm)), (8, .int (nI (y * 4 + fc))), (9, .int (nI (pk_ov ps fb (ru 1))))]) hx hb dd_Se_extend_160 hl (k := 10) rfl (nI_add cx 1) (by decide) rfl (fun ls hl => ?_)
              refine lv_goto (tgt := 50) hx hb dd_Se_extend_163 (by decide) ?_
              exact ih_50 (cx + 1) an2_130 ro2_130 rv2_130 rd2_130 rc2_130 bk1 (by omega) (by omega) (by first | exact ke_at_n hat1 hKn | (rw [e2, e3, e4, e5]; exact ke_at_k hat1 hKs hz9 hcd) | (rw [e2, e3, e4, e5]; exact ke_at_y hat1 hKs hz9 hcd (by rw [ke_en_at (by omega) hsm]))) (by first | exact hkf | (rw [e2, e3, e4, e5]; first | exact hkf | exact kf_y hkf)) (by first | exact hkb | exact fun q hq => by rw [show upd bk1 ((n - 1) * pl + (y * 4 + fc)) _ q = bk1 q from if_neg hq]; exact hkb q hq) (by first | exact hka1 | (rw [e1, e5]; first | exact hka1 | exact ka_y (by omega) hz9)) H locs hP hD hS ls (lv_sub hl [2, 3, 4, 5, 6, 7, 8, 9, 10, 0] rfl)
            · skip
              have c133 : rcn1 (y * 4 + fc) = (-1) ∨ pk_bt ((ron1 ((x * 4) + cx)) + fo) (ron1 (y * 4 + fc)) ((rvn1 ((x * 4) + cx)) + (nI (pk_ov ps fb (ru 1)))) (rvn1 (y * 4 + fc)) (((rdn1 ((x * 4) + cx)) + dm) + (if pm_adj fc cx then (ru 5).toInt64 else 0)) (rdn1 (y * 4 + fc)) ((rcn1 ((x * 4) + cx)) + (nI 1)) (rcn1 (y * 4 + fc)) := kb_1.mp c133
              have hcd := c133
              rw [hp2, hp3, hp4, hnc] at hcd hw130
              rw [if_pos hcd] at hw130
              obtain ⟨e1, e2, e3, e4, e5⟩ := hw130
              refine lv_aload_n hx hb dd_Se_extend_136 rfl (lv_at hl 1 rfl) ?_
              refine va_get (D := D) (ci := 7) (v := .ref v7) (C := rr_Se) (T := tt_Se) (N := 17) hx hb hts hin7 hown hK hP 0 kg_10_0 rfl 16 (by decide) lk16 (fun _ h9 => h9) rfl dd_Se_extend_137 ?_
              refine lv_iload hx hb dd_Se_extend_140 (lv_at hl 5 rfl) ?_
              refine lv_iconst (v := nI 1) hx hb dd_Se_extend_142 (by decide) ?_
              refine kx_isub hx hb dd_Se_extend_143 (by omega) ?_
              refine lv_aload_n hx hb dd_Se_extend_144 rfl (lv_at hl 1 rfl) ?_
              refine va_get (D := D) (ci := 7) (v := .int (nI pl)) (C := rr_Se) (T := tt_Se) (N := 17) hx hb hts hin7 hown hK hP 0 kg_10_0 rfl 11 (by decide) lk17 (fun _ h9 => h9) rfl dd_Se_extend_145 ?_
              refine kx_imul hx hb dd_Se_extend_148 ?_
              refine lv_iload hx hb dd_Se_extend_149 (lv_at hl 8 rfl) ?_
              refine kx_iadd hx hb dd_Se_extend_151 ?_
              refine lv_iconst (v := nI 2) hx hb dd_Se_extend_152 (by decide) ?_
              refine lv_iload hx hb dd_Se_extend_153 (lv_at hl 0 rfl) ?_
              refine kx_imul hx hb dd_Se_extend_155 ?_
              refine lv_iload hx hb dd_Se_extend_156 (lv_at hl 7 rfl) ?_
              refine kx_iadd hx hb dd_Se_extend_158 ?_
              refine kx_iast (q0 := 9) (t0 := 0) hx hb dd_Se_extend_159 hK hP hD hS kg_10_9 rfl (by omega) (by omega) (fun H locs hP hD hS => ?_)
              have hP : va_P D vwCl [(h, .inr (7, [.ref g, .ref t, .ref k, .ref f, .ref v1, .ref v2, .ref v3, .ref v4, .int (nI ps), .int (nI ly), .int op, .int (nI pl), .int (nI wl), .int (nI wc), .ref v5, .ref v6, .ref v7])), (g, .inr (8, [.ref g0, .ref g1, .ref g2, .ref g3, .int (nI mc)])), (g0, .inl (cI, 9, .inl ru)), (f, .inr (3, [.int fb, .int (nI fc), .long fo])), (v4, .inr (6, [.int an2_130, .ref qn0, .ref qn1, .ref qn2, .ref qn3])), (qn0, .inl (cJ, zn, .inr (.inl ro2_130))), (qn1, .inl (cI, zn, .inl rv2_130)), (qn2, .inl (cJ, zn, .inr (.inl rd2_130))), (qn3, .inl (cI, zn, .inl rc2_130)), (v7, .inl (cI, lw, .inl (upd bk1 (((n - 1) * pl) + (y * 4 + fc)) (nI ((2 * ((x * 4) + cx)) + sm)))))] H := kx_cP kz_10_9 hP
              have hD : va_D A [(h, .inr (7, [.ref g, .ref t, .ref k, .ref f, .ref v1, .ref v2, .ref v3, .ref v4, .int (nI ps), .int (nI ly), .int op, .int (nI pl), .int (nI wl), .int (nI wc), .ref v5, .ref v6, .ref v7])), (g, .inr (8, [.ref g0, .ref g1, .ref g2, .ref g3, .int (nI mc)])), (g0, .inl (cI, 9, .inl ru)), (f, .inr (3, [.int fb, .int (nI fc), .long fo])), (v4, .inr (6, [.int an2_130, .ref qn0, .ref qn1, .ref qn2, .ref qn3])), (qn0, .inl (cJ, zn, .inr (.inl ro2_130))), (qn1, .inl (cI, zn, .inl rv2_130)), (qn2, .inl (cJ, zn, .inr (.inl rd2_130))), (qn3, .inl (cI, zn, .inl rc2_130)), (v7, .inl (cI, lw, .inl (upd bk1 (((n - 1) * pl) + (y * 4 + fc)) (nI ((2 * ((x * 4) + cx)) + sm)))))] := kx_cD kz_10_9 hD
              refine lv_iinc (v := nI (cx + 1)) (lv' := [(10, .int (nI (cx + 1))), (11, .int (nI ((x * 4) + cx))), (0, .ref h), (1, .ref v4), (2, .int (nI x)), (3, .int (nI y)), (4, .int (nI n)), (5, .long dm), (7, .int (nI sm)), (8, .int (nI (y * 4 + fc))), (9, .int (nI (pk_ov ps fb (ru 1))))]) hx hb dd_Se_extend_160 hl (k := 10) rfl (nI_add cx 1) (by decide) rfl (fun ls hl => ?_)
              refine lv_goto (tgt := 50) hx hb dd_Se_extend_163 (by decide) ?_
              exact ih_50 (cx + 1) an2_130 ro2_130 rv2_130 rd2_130 rc2_130 (upd bk1 (((n - 1) * pl) + (y * 4 + fc)) (nI ((2 * ((x * 4) + cx)) + sm))) (by omega) (by omega) (by first | exact ke_at_n hat1 hKn | (rw [e2, e3, e4, e5]; exact ke_at_k hat1 hKs hz9 hcd) | (rw [e2, e3, e4, e5]; exact ke_at_y hat1 hKs hz9 hcd (by rw [ke_en_at (by omega) hsm]))) (by first | exact hkf | (rw [e2, e3, e4, e5]; first | exact hkf | exact kf_y hkf)) (by first | exact hkb | exact fun q hq => by rw [show upd bk1 ((n - 1) * pl + (y * 4 + fc)) _ q = bk1 q from if_neg hq]; exact hkb q hq) (by first | exact hka1 | (rw [e1, e5]; first | exact hka1 | exact ka_y (by omega) hz9)) H locs hP hD hS ls (lv_sub hl [2, 3, 4, 5, 6, 7, 8, 9, 10, 0] rfl)
    exact lp50 ((4 - 0) + 1) 0 ann ron rvn rdn rcn bk (Nat.lt_succ_self _) (by omega) hat kf_rf (fun _ _ => rfl) hka H locs hP hD hS ls (lv_sub hl [3, 4, 5, 6, 7, 8, 9, 2, 1, 0] rfl)
  · skip
    refine lv_icmp_ne (tgt := 44) hx hb dd_Se_extend_18 (by decide) (fun c18 => ?_) (fun c18 => ?_)
    · skip
      have c18 : ¬ (ps = 3) := fun h => c18 ((nI_eq (by omega) (by omega)).mpr h)
      refine lv_iconst (v := nI 0) hx hb dd_Se_extend_44 (by decide) ?_
      exact K45 _ H locs (by rw [if_neg c18]) hP hD hS
    · skip
      have c18 : ps = 3 := (nI_eq (by omega) (by omega)).mp c18
      refine lv_aload_n hx hb dd_Se_extend_21 rfl (lv_at hl 1 rfl) ?_
      refine va_get (D := D) (ci := 7) (v := .ref f) (C := rr_Se) (T := tt_Se) (N := 17) hx hb hts hin7 hown hK hP 0 kg_10_0 rfl 3 (by decide) lk0 (fun _ h9 => h9) rfl dd_Se_extend_22 ?_
      refine va_get (D := D) (ci := 3) (v := .int fb) (C := rr_Ft) (T := tt_Ft) (N := 3) hx hb hts hin3 hown hK hP 3 kg_10_3 rfl 0 (by decide) lk5 (fun _ h9 => h9) rfl dd_Se_extend_25 ?_
      refine lv_aload_n hx hb dd_Se_extend_28 rfl (lv_at hl 1 rfl) ?_
      refine va_get (D := D) (ci := 7) (v := .ref g) (C := rr_Se) (T := tt_Se) (N := 17) hx hb hts hin7 hown hK hP 0 kg_10_0 rfl 0 (by decide) lk6 (fun _ h9 => h9) rfl dd_Se_extend_29 ?_
      refine va_get (D := D) (ci := 8) (v := .ref g0) (C := rr_Sg) (T := tt_Sg) (N := 5) hx hb hts hin8 hown hK hP 1 kg_10_1 rfl 0 (by decide) lk7 (fun _ h9 => h9) rfl dd_Se_extend_32 ?_
      refine lv_iconst (v := nI 1) hx hb dd_Se_extend_35 (by decide) ?_
      refine kx_iald (q0 := 2) (t0 := 0) hx hb dd_Se_extend_36 hK hP kg_10_2 rfl (by omega) (by omega) ?_
      refine lv_icmp_le (tgt := 44) hx hb dd_Se_extend_37 (by decide) (fun c37 => ?_) (fun c37 => ?_)
      · skip
        refine lv_iconst (v := nI 0) hx hb dd_Se_extend_44 (by decide) ?_
        exact K45 _ H locs (by rw [if_pos c18, if_pos c37]) hP hD hS
      · skip
        refine lv_iconst (v := nI 1) hx hb dd_Se_extend_40 (by decide) ?_
        refine lv_goto (tgt := 45) hx hb dd_Se_extend_41 (by decide) ?_
        exact K45 _ H locs (by rw [if_pos c18, if_neg c37]) hP hD hS
