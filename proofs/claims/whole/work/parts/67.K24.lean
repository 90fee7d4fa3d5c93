/-! the rest of the face -/
theorem kf_pp (p : Int32) : (if (-10000) < (if p < nI 10000 then p else nI 10000) then (if p < nI 10000 then p else nI 10000) else (-10000)) = pm_pp p := by
  unfold pm_pp
  simp only [Int32.lt_iff_toInt_lt, Int32.le_iff_toInt_le, nI_toInt (show 10000 < 2 ^ 31 by decide), show ((-10000) : Int32).toInt = -10000 by decide +kernel]
  by_cases a : p.toInt < ((10000 : Nat) : Int)
  · simp only [if_pos a]
    by_cases b : -10000 < p.toInt
    · rw [if_pos b, if_pos (by omega), if_pos (by omega)]
    · rw [if_neg b]
      by_cases c : -10000 ≤ p.toInt
      · rw [if_pos c, if_pos (by omega)]
        apply Int32.toInt_inj.mp
        rw [show ((-10000) : Int32).toInt = -10000 by decide +kernel]
        omega
      · rw [if_neg c]
  · simp only [if_neg a, nI_toInt (show 10000 < 2 ^ 31 by decide)]
    rw [if_pos (by omega), if_pos (by omega)]
    by_cases c : p.toInt ≤ ((10000 : Nat) : Int)
    · rw [if_pos c]
      apply Int32.toInt_inj.mp
      rw [nI_toInt (by decide)]
      omega
    · rw [if_neg c]
theorem kf_glue {cn ln ln2 : Nat} {kk st2 or2 sh2 : Int32} {ww : Int64} {ik ic ia ib if_ ik2 ic2 ia2 ib2 if_2 : Nat → Int32} {iw is_ ih ij iw2 is_2 ih2 ij2 s3 h3 j3 : Nat → Int64} (h : ln2 = kg_n ln (cn + 1) 4096 ∧ (∀ j, j < cn → ik2 j = ik j ∧ ic2 j = ic j ∧ ia2 j = ia j ∧ ib2 j = ib j ∧ if_2 j = if_ j) ∧ ik2 cn = kk ∧ (∀ j, j < cn + 1 → iw2 j = iw j ∧ is_2 j = is_ j ∧ ih2 j = ih j ∧ ij2 j = ij j) ∧ iw2 (cn + 1) = iw cn + ww ∧ is_2 (cn + 1) = is_ cn ∧ ih2 (cn + 1) = ih cn ∧ ij2 (cn + 1) = ij cn) (g : s3 = (if or2 = 0 then vp_updL is_2 (cn + 1) (is_2 (cn + 1) + st2.toInt64) else is_2) ∧ h3 = (if or2 = 0 then ih2 else vp_updL ih2 (cn + 1) (ih2 (cn + 1) + st2.toInt64)) ∧ j3 = vp_updL ij2 (cn + 1) (ij2 (cn + 1) + sh2.toInt64)) : nI cn = nI cn ∧ ln2 = kg_n ln (cn + 1) 4096 ∧ (∀ j, j < cn → ik2 j = ik j ∧ ic2 j = ic j ∧ ia2 j = ia j ∧ ib2 j = ib j ∧ if_2 j = if_ j) ∧ ik2 cn = kk ∧ (∀ j, j < cn + 1 → iw2 j = iw j ∧ s3 j = is_ j ∧ h3 j = ih j ∧ j3 j = ij j) ∧ iw2 (cn + 1) = iw cn + ww ∧ s3 (cn + 1) = (if or2 = 0 then is_ cn + st2.toInt64 else is_ cn) ∧ h3 (cn + 1) = (if or2 = 0 then ih cn else ih cn + st2.toInt64) ∧ j3 (cn + 1) = ij cn + sh2.toInt64 := by
  obtain ⟨a1, a2, a3, a4, a5, a6, a7, a8⟩ := h
  obtain ⟨rfl, rfl, rfl⟩ := g
  refine ⟨rfl, a1, a2, a3, fun j hj => ⟨(a4 j hj).1, ?_, ?_, ?_⟩, a5, ?_, ?_, ?_⟩
  · split
    · rw [pm_upd, if_neg (by omega)]; exact (a4 j hj).2.1
    · exact (a4 j hj).2.1
  · split
    · exact (a4 j hj).2.2.1
    · rw [pm_upd, if_neg (by omega)]; exact (a4 j hj).2.2.1
  · rw [pm_upd, if_neg (by omega)]; exact (a4 j hj).2.2.2
  · split
    · rw [pm_upd, if_pos rfl, a6]
    · exact a6
  · split
    · exact a7
    · rw [pm_upd, if_pos rfl, a7]
  · rw [pm_upd, if_pos rfl, a8]
theorem kf_pen {cn ln ln2 : Nat} {kk p9 : Int32} {ww : Int64} {ik ic ia ib if_ ik2 ic2 ia2 ib2 if_2 : Nat → Int32} {iw is_ ih ij iw2 is_2 ih2 ij2 : Nat → Int64} (h : ln2 = kg_n ln (cn + 1) 4096 ∧ (∀ j, j < cn → ik2 j = ik j ∧ ic2 j = ic j ∧ ia2 j = ia j ∧ ib2 j = ib j ∧ if_2 j = if_ j) ∧ ik2 cn = kk ∧ (∀ j, j < cn + 1 → iw2 j = iw j ∧ is_2 j = is_ j ∧ ih2 j = ih j ∧ ij2 j = ij j) ∧ iw2 (cn + 1) = iw cn + ww ∧ is_2 (cn + 1) = is_ cn ∧ ih2 (cn + 1) = ih cn ∧ ij2 (cn + 1) = ij cn) : nI cn = nI cn ∧ ln2 = kg_n ln (cn + 1) 4096 ∧ (∀ j, j < cn → ik2 j = ik j ∧ upd ic2 cn (if (-10000) < (if p9 < nI 10000 then p9 else nI 10000) then (if p9 < nI 10000 then p9 else nI 10000) else (-10000)) j = ic j ∧ ia2 j = ia j ∧ ib2 j = ib j ∧ if_2 j = if_ j) ∧ ik2 cn = kk ∧ (∀ j, j < cn + 1 → iw2 j = iw j ∧ is_2 j = is_ j ∧ ih2 j = ih j ∧ ij2 j = ij j) ∧ iw2 (cn + 1) = iw cn + ww ∧ is_2 (cn + 1) = is_ cn ∧ ih2 (cn + 1) = ih cn ∧ ij2 (cn + 1) = ij cn ∧ upd ic2 cn (if (-10000) < (if p9 < nI 10000 then p9 else nI 10000) then (if p9 < nI 10000 then p9 else nI 10000) else (-10000)) cn = pm_pp p9 := by
  obtain ⟨a1, a2, a3, a4, a5, a6, a7, a8⟩ := h
  rw [kf_pp]
  refine ⟨rfl, a1, fun j hj => ?_, a3, a4, a5, a6, a7, a8, ?_⟩
  · obtain ⟨b1, b2, b3, b4, b5⟩ := a2 j hj
    exact ⟨b1, by unfold upd; rw [if_neg (by omega)]; exact b2, b3, b4, b5⟩
  · unfold upd; rw [if_pos rfl]
theorem kf_cut {cn ln ln2 : Nat} {kk a9 b9 f9 : Int32} {ww : Int64} {ik ic ia ib if_ ik2 ic2 ia2 ib2 if_2 : Nat → Int32} {iw is_ ih ij iw2 is_2 ih2 ij2 : Nat → Int64} (h : ln2 = kg_n ln (cn + 1) 4096 ∧ (∀ j, j < cn → ik2 j = ik j ∧ ic2 j = ic j ∧ ia2 j = ia j ∧ ib2 j = ib j ∧ if_2 j = if_ j) ∧ ik2 cn = kk ∧ (∀ j, j < cn + 1 → iw2 j = iw j ∧ is_2 j = is_ j ∧ ih2 j = ih j ∧ ij2 j = ij j) ∧ iw2 (cn + 1) = iw cn + ww ∧ is_2 (cn + 1) = is_ cn ∧ ih2 (cn + 1) = ih cn ∧ ij2 (cn + 1) = ij cn) : nI cn = nI cn ∧ ln2 = kg_n ln (cn + 1) 4096 ∧ (∀ j, j < cn → ik2 j = ik j ∧ ic2 j = ic j ∧ upd ia2 cn a9 j = ia j ∧ upd ib2 cn b9 j = ib j ∧ upd if_2 cn f9 j = if_ j) ∧ ik2 cn = kk ∧ (∀ j, j < cn + 1 → iw2 j = iw j ∧ is_2 j = is_ j ∧ ih2 j = ih j ∧ ij2 j = ij j) ∧ iw2 (cn + 1) = iw cn + ww ∧ is_2 (cn + 1) = is_ cn ∧ ih2 (cn + 1) = ih cn ∧ ij2 (cn + 1) = ij cn ∧ upd ia2 cn a9 cn = a9 ∧ upd ib2 cn b9 cn = b9 ∧ upd if_2 cn f9 cn = f9 := by
  obtain ⟨a1, a2, a3, a4, a5, a6, a7, a8⟩ := h
  refine ⟨rfl, a1, fun j hj => ?_, a3, a4, a5, a6, a7, a8, ?_, ?_, ?_⟩
  · obtain ⟨b1, b2, b3, b4, b5⟩ := a2 j hj
    exact ⟨b1, b2, by unfold upd; rw [if_neg (by omega)]; exact b3, by unfold upd; rw [if_neg (by omega)]; exact b4, by unfold upd; rw [if_neg (by omega)]; exact b5⟩
  · unfold upd; rw [if_pos rfl]
  · unfold upd; rw [if_pos rfl]
  · unfold upd; rw [if_pos rfl]
theorem kt_4_ {c0 c1 c2 c3 : Nat × va_E} : ([] : List Nat).filterMap (fun i => ([c0, c1, c2, c3] : va_W)[i]?) = ([] : va_W) := rfl
theorem kt_4_2 {c0 c1 c2 c3 : Nat × va_E} : ([2] : List Nat).filterMap (fun i => ([c0, c1, c2, c3] : va_W)[i]?) = ([c2] : va_W) := rfl
theorem kt_4_0_1_3_2 {c0 c1 c2 c3 : Nat × va_E} : ([0, 1, 3, 2] : List Nat).filterMap (fun i => ([c0, c1, c2, c3] : va_W)[i]?) = ([c0, c1, c3, c2] : va_W) := rfl
theorem ks_4_0_1_3_2 {c0 c1 c2 c3 : Nat × va_E} : ([0, 1, 3, 2] : List Nat).map (fun i => ([c0, c1, c2, c3] : va_W)[i]?) = ([c0, c1, c3, c2] : va_W).map some := rfl
theorem kt_11_1_8_9_10 {c0 c1 c2 c3 c4 c5 c6 c7 c8 c9 c10 : Nat × va_E} : ([1, 8, 9, 10] : List Nat).filterMap (fun i => ([c0, c1, c2, c3, c4, c5, c6, c7, c8, c9, c10] : va_W)[i]?) = ([c1, c8, c9, c10] : va_W) := rfl
theorem ks_11_1_8_9_10 {c0 c1 c2 c3 c4 c5 c6 c7 c8 c9 c10 : Nat × va_E} : ([1, 8, 9, 10] : List Nat).map (fun i => ([c0, c1, c2, c3, c4, c5, c6, c7, c8, c9, c10] : va_W)[i]?) = ([c1, c8, c9, c10] : va_W).map some := rfl
theorem ks_11_0_2_3_4_5_6_7 {c0 c1 c2 c3 c4 c5 c6 c7 c8 c9 c10 : Nat × va_E} : ([0, 2, 3, 4, 5, 6, 7] : List Nat).map (fun i => ([c0, c1, c2, c3, c4, c5, c6, c7, c8, c9, c10] : va_W)[i]?) = ([c0, c2, c3, c4, c5, c6, c7] : va_W).map some := rfl
theorem kt_11_0_7_1_2_3_4_5_6_8_9_10 {c0 c1 c2 c3 c4 c5 c6 c7 c8 c9 c10 : Nat × va_E} : ([0, 7, 1, 2, 3, 4, 5, 6, 8, 9, 10] : List Nat).filterMap (fun i => ([c0, c1, c2, c3, c4, c5, c6, c7, c8, c9, c10] : va_W)[i]?) = ([c0, c7, c1, c2, c3, c4, c5, c6, c8, c9, c10] : va_W) := rfl
theorem ks_11_0_7_1_2_3_4_5_6_8_9_10 {c0 c1 c2 c3 c4 c5 c6 c7 c8 c9 c10 : Nat × va_E} : ([0, 7, 1, 2, 3, 4, 5, 6, 8, 9, 10] : List Nat).map (fun i => ([c0, c1, c2, c3, c4, c5, c6, c7, c8, c9, c10] : va_W)[i]?) = ([c0, c7, c1, c2, c3, c4, c5, c6, c8, c9, c10] : va_W).map some := rfl
theorem kt_11_1_3 {c0 c1 c2 c3 c4 c5 c6 c7 c8 c9 c10 : Nat × va_E} : ([1, 3] : List Nat).filterMap (fun i => ([c0, c1, c2, c3, c4, c5, c6, c7, c8, c9, c10] : va_W)[i]?) = ([c1, c3] : va_W) := rfl
theorem ks_11_1_3 {c0 c1 c2 c3 c4 c5 c6 c7 c8 c9 c10 : Nat × va_E} : ([1, 3] : List Nat).map (fun i => ([c0, c1, c2, c3, c4, c5, c6, c7, c8, c9, c10] : va_W)[i]?) = ([c1, c3] : va_W).map some := rfl
theorem ks_11_0_2_4_5_6_7_8_9_10 {c0 c1 c2 c3 c4 c5 c6 c7 c8 c9 c10 : Nat × va_E} : ([0, 2, 4, 5, 6, 7, 8, 9, 10] : List Nat).map (fun i => ([c0, c1, c2, c3, c4, c5, c6, c7, c8, c9, c10] : va_W)[i]?) = ([c0, c2, c4, c5, c6, c7, c8, c9, c10] : va_W).map some := rfl
theorem kt_11_0_9_1_10_2_3_4_5_6_7_8 {c0 c1 c2 c3 c4 c5 c6 c7 c8 c9 c10 : Nat × va_E} : ([0, 9, 1, 10, 2, 3, 4, 5, 6, 7, 8] : List Nat).filterMap (fun i => ([c0, c1, c2, c3, c4, c5, c6, c7, c8, c9, c10] : va_W)[i]?) = ([c0, c9, c1, c10, c2, c3, c4, c5, c6, c7, c8] : va_W) := rfl
theorem ks_11_0_9_1_10_2_3_4_5_6_7_8 {c0 c1 c2 c3 c4 c5 c6 c7 c8 c9 c10 : Nat × va_E} : ([0, 9, 1, 10, 2, 3, 4, 5, 6, 7, 8] : List Nat).map (fun i => ([c0, c1, c2, c3, c4, c5, c6, c7, c8, c9, c10] : va_W)[i]?) = ([c0, c9, c1, c10, c2, c3, c4, c5, c6, c7, c8] : va_W).map some := rfl
theorem kt_11_1_4_5_6 {c0 c1 c2 c3 c4 c5 c6 c7 c8 c9 c10 : Nat × va_E} : ([1, 4, 5, 6] : List Nat).filterMap (fun i => ([c0, c1, c2, c3, c4, c5, c6, c7, c8, c9, c10] : va_W)[i]?) = ([c1, c4, c5, c6] : va_W) := rfl
theorem ks_11_1_4_5_6 {c0 c1 c2 c3 c4 c5 c6 c7 c8 c9 c10 : Nat × va_E} : ([1, 4, 5, 6] : List Nat).map (fun i => ([c0, c1, c2, c3, c4, c5, c6, c7, c8, c9, c10] : va_W)[i]?) = ([c1, c4, c5, c6] : va_W).map some := rfl
theorem ks_11_0_2_3_7_8_9_10 {c0 c1 c2 c3 c4 c5 c6 c7 c8 c9 c10 : Nat × va_E} : ([0, 2, 3, 7, 8, 9, 10] : List Nat).map (fun i => ([c0, c1, c2, c3, c4, c5, c6, c7, c8, c9, c10] : va_W)[i]?) = ([c0, c2, c3, c7, c8, c9, c10] : va_W).map some := rfl
theorem kt_11_0_7_1_2_8_9_10_3_4_5_6 {c0 c1 c2 c3 c4 c5 c6 c7 c8 c9 c10 : Nat × va_E} : ([0, 7, 1, 2, 8, 9, 10, 3, 4, 5, 6] : List Nat).filterMap (fun i => ([c0, c1, c2, c3, c4, c5, c6, c7, c8, c9, c10] : va_W)[i]?) = ([c0, c7, c1, c2, c8, c9, c10, c3, c4, c5, c6] : va_W) := rfl
theorem ks_11_0_7_1_2_8_9_10_3_4_5_6 {c0 c1 c2 c3 c4 c5 c6 c7 c8 c9 c10 : Nat × va_E} : ([0, 7, 1, 2, 8, 9, 10, 3, 4, 5, 6] : List Nat).map (fun i => ([c0, c1, c2, c3, c4, c5, c6, c7, c8, c9, c10] : va_W)[i]?) = ([c0, c7, c1, c2, c8, c9, c10, c3, c4, c5, c6] : va_W).map some := rfl
theorem kw_106 : Cond.fieldLink rr_K (60) "LineDesk$Settings" "left" "LLineDesk$Spring;" ∈ kx_T := kx_in (i := 106) (by decide +kernel) (by decide +kernel)
theorem kw_109 : Cond.fieldLink rr_K (64) "LineDesk$Settings" "right" "LLineDesk$Spring;" ∈ kx_T := kx_in (i := 109) (by decide +kernel) (by decide +kernel)
theorem kw_344 : Cond.fieldLink rr_K (140) "LineDesk$Made" "pass" "I" ∈ kx_T := kx_in (i := 344) (by decide +kernel) (by decide +kernel)
theorem kw_346 : Cond.fieldLink rr_K (117) "LineDesk$Made" "count" "I" ∈ kx_T := kx_in (i := 346) (by decide +kernel) (by decide +kernel)
theorem kw_348 : Cond.fieldLink rr_K (150) "LineDesk$Made" "over" "I" ∈ kx_T := kx_in (i := 348) (by decide +kernel) (by decide +kernel)
theorem kw_351 : Cond.fieldLink rr_K (143) "LineDesk$Made" "allDemerits" "J" ∈ kx_T := kx_in (i := 351) (by decide +kernel) (by decide +kernel)
theorem kw_354 : Cond.fieldLink rr_K (147) "LineDesk$Made" "allOut" "J" ∈ kx_T := kx_in (i := 354) (by decide +kernel) (by decide +kernel)
theorem kw_444 : Cond.methodLink rr_K (56) yy_K_isGlue ∈ kx_T := kx_in (i := 444) (by decide +kernel) (by decide +kernel)
theorem kw_445 : Cond.static yy_K_isGlue ∈ kx_T := kx_in (i := 445) (by decide +kernel) (by decide +kernel)
set_option maxRecDepth 100000 in
theorem kw_446 : Cond.code yy_K_isGlue bb_K_isGlue 4 (some .boolean) ∈ kx_T := kx_in (i := 446) rfl (by decide +kernel)
theorem kw_447 : Cond.methodLink rr_K (67) yy_Sp_set ∈ kx_T := kx_in (i := 447) (by decide +kernel) (by decide +kernel)
theorem kw_448 : Cond.instanceMethod yy_Sp_set ∈ kx_T := kx_in (i := 448) (by decide +kernel) (by decide +kernel)
theorem kw_449 : Cond.selects rr_Sp yy_Sp_set yy_Sp_set ∈ kx_T := kx_in (i := 449) (by decide +kernel) (by decide +kernel)
set_option maxRecDepth 100000 in
theorem kw_450 : Cond.code yy_Sp_set bb_Sp_set 5 none ∈ kx_T := kx_in (i := 450) rfl (by decide +kernel)
theorem kw_477 : Cond.methodLink rr_K (77) yy_It_addSpring ∈ kx_T := kx_in (i := 477) (by decide +kernel) (by decide +kernel)
theorem kw_478 : Cond.instanceMethod yy_It_addSpring ∈ kx_T := kx_in (i := 478) (by decide +kernel) (by decide +kernel)
theorem kw_479 : Cond.selects rr_It yy_It_addSpring yy_It_addSpring ∈ kx_T := kx_in (i := 479) (by decide +kernel) (by decide +kernel)
set_option maxRecDepth 100000 in
theorem kw_480 : Cond.code yy_It_addSpring bb_It_addSpring 5 none ∈ kx_T := kx_in (i := 480) rfl (by decide +kernel)
theorem kw_489 : Cond.methodLink rr_K (88) yy_It_setCost ∈ kx_T := kx_in (i := 489) (by decide +kernel) (by decide +kernel)
theorem kw_490 : Cond.instanceMethod yy_It_setCost ∈ kx_T := kx_in (i := 490) (by decide +kernel) (by decide +kernel)
theorem kw_491 : Cond.selects rr_It yy_It_setCost yy_It_setCost ∈ kx_T := kx_in (i := 491) (by decide +kernel) (by decide +kernel)
set_option maxRecDepth 100000 in
theorem kw_492 : Cond.code yy_It_setCost bb_It_setCost 3 none ∈ kx_T := kx_in (i := 492) rfl (by decide +kernel)
theorem kw_497 : Cond.methodLink rr_K (91) yy_It_setCut ∈ kx_T := kx_in (i := 497) (by decide +kernel) (by decide +kernel)
theorem kw_498 : Cond.instanceMethod yy_It_setCut ∈ kx_T := kx_in (i := 498) (by decide +kernel) (by decide +kernel)
theorem kw_499 : Cond.selects rr_It yy_It_setCut yy_It_setCut ∈ kx_T := kx_in (i := 499) (by decide +kernel) (by decide +kernel)
set_option maxRecDepth 100000 in
theorem kw_500 : Cond.code yy_It_setCut bb_It_setCut 5 none ∈ kx_T := kx_in (i := 500) rfl (by decide +kernel)
theorem dd_K_skip_0 : decode bb_K_skip 0 = .ok (.iload_n 1, 1) := by decide +kernel
theorem dd_K_skip_1 : decode bb_K_skip 1 = .ok (.ifCond .lt (20), 3) := by decide +kernel
theorem dd_K_skip_4 : decode bb_K_skip 4 = .ok (.iload_n 1, 1) := by decide +kernel
theorem dd_K_skip_5 : decode bb_K_skip 5 = .ok (.iconst 1, 1) := by decide +kernel
theorem dd_K_skip_6 : decode bb_K_skip 6 = .ok (.if_icmp .gt (15), 3) := by decide +kernel
theorem dd_K_skip_9 : decode bb_K_skip 9 = .ok (.iload_n 2, 1) := by decide +kernel
theorem dd_K_skip_10 : decode bb_K_skip 10 = .ok (.iload_n 3, 1) := by decide +kernel
theorem dd_K_skip_11 : decode bb_K_skip 11 = .ok (.iload 4, 2) := by decide +kernel
theorem dd_K_skip_13 : decode bb_K_skip 13 = .ok (.iload 5, 2) := by decide +kernel
theorem dd_K_skip_15 : decode bb_K_skip 15 = .ok (.invokestatic 56, 3) := by decide +kernel
theorem dd_K_skip_18 : decode bb_K_skip 18 = .ok (.ifCond .ne (5), 3) := by decide +kernel
theorem dd_K_skip_21 : decode bb_K_skip 21 = .ok (.iconst 0, 1) := by decide +kernel
theorem dd_K_skip_22 : decode bb_K_skip 22 = .ok (.ireturn, 1) := by decide +kernel
theorem dd_K_skip_23 : decode bb_K_skip 23 = .ok (.iload_n 1, 1) := by decide +kernel
theorem dd_K_skip_24 : decode bb_K_skip 24 = .ok (.ifCond .ne (13), 3) := by decide +kernel
theorem dd_K_skip_27 : decode bb_K_skip 27 = .ok (.aload_n 0, 1) := by decide +kernel
theorem dd_K_skip_28 : decode bb_K_skip 28 = .ok (.getfield 15, 3) := by decide +kernel
theorem dd_K_skip_31 : decode bb_K_skip 31 = .ok (.getfield 60, 3) := by decide +kernel
theorem dd_K_skip_34 : decode bb_K_skip 34 = .ok (.goto (10), 3) := by decide +kernel
theorem dd_K_skip_37 : decode bb_K_skip 37 = .ok (.aload_n 0, 1) := by decide +kernel
theorem dd_K_skip_38 : decode bb_K_skip 38 = .ok (.getfield 15, 3) := by decide +kernel
theorem dd_K_skip_41 : decode bb_K_skip 41 = .ok (.getfield 64, 3) := by decide +kernel
theorem dd_K_skip_44 : decode bb_K_skip 44 = .ok (.astore 6, 2) := by decide +kernel
theorem dd_K_skip_46 : decode bb_K_skip 46 = .ok (.aload 6, 2) := by decide +kernel
theorem dd_K_skip_48 : decode bb_K_skip 48 = .ok (.iload_n 2, 1) := by decide +kernel
theorem dd_K_skip_49 : decode bb_K_skip 49 = .ok (.iload_n 3, 1) := by decide +kernel
theorem dd_K_skip_50 : decode bb_K_skip 50 = .ok (.iload 4, 2) := by decide +kernel
theorem dd_K_skip_52 : decode bb_K_skip 52 = .ok (.iload 5, 2) := by decide +kernel
theorem dd_K_skip_54 : decode bb_K_skip 54 = .ok (.invokevirtual 67, 3) := by decide +kernel
theorem dd_K_skip_57 : decode bb_K_skip 57 = .ok (.iconst 1, 1) := by decide +kernel
theorem dd_K_skip_58 : decode bb_K_skip 58 = .ok (.ireturn, 1) := by decide +kernel

set_option maxHeartbeats 4000000 in
set_option maxRecDepth 100000 in
theorem ct_K_skip (l : Launch) (D : va_G) (cI cJ cZ : ClassId) (sz : Nat) (x : Nat) (g : Nat) (t : Nat) (h : Nat) (o : Nat) (g0 : Nat) (g1 : Nat) (g2 : Nat) (g3 : Nat) (mc : Nat) (l0 : Int64) (l1 : Int64) (l2 : Int64) (l3 : Int64) (r0 : Int64) (r1 : Int64) (r2 : Int64) (r3 : Int64) (sd : Int32) (w : Int32) (st2 : Int32) (or2 : Int32) (sh2 : Int32) : kx_Mi l yy_K_skip ww_K_skip ({ frames := 2, cells := 0, slots := 0, locals := 43 }) D vwCl (kx_ty cI cJ cZ) [.ref x, .int sd, .int w, .int st2, .int or2, .int sh2] [(x, .inr (1, [.ref g, .ref t, .ref h, .ref o])), (g, .inr (8, [.ref g0, .ref g1, .ref g2, .ref g3, .int (nI mc)])), (g1, .inr (9, [.long l0, .long l1, .long l2, .long l3])), (g2, .inr (9, [.long r0, .long r1, .long r2, .long r3]))] sz (fun (r : Int32) (u : Int64 × Int64 × Int64 × Int64 × Int64 × Int64 × Int64 × Int64) => (r = kb_p (pm_sp sd w st2 or2 sh2)) ∧ (if pm_sp sd w st2 or2 sh2 then (if sd = 0 then (u.1 = w.toInt64 ∧ u.2.1 = (if or2 = 0 then st2.toInt64 else 0) ∧ u.2.2.1 = (if or2 = 0 then 0 else st2.toInt64) ∧ u.2.2.2.1 = sh2.toInt64) ∧ (u.2.2.2.2.1 = r0 ∧ u.2.2.2.2.2.1 = r1 ∧ u.2.2.2.2.2.2.1 = r2 ∧ u.2.2.2.2.2.2.2 = r3) else (u.1 = l0 ∧ u.2.1 = l1 ∧ u.2.2.1 = l2 ∧ u.2.2.2.1 = l3) ∧ (u.2.2.2.2.1 = w.toInt64 ∧ u.2.2.2.2.2.1 = (if or2 = 0 then st2.toInt64 else 0) ∧ u.2.2.2.2.2.2.1 = (if or2 = 0 then 0 else st2.toInt64) ∧ u.2.2.2.2.2.2.2 = sh2.toInt64)) else (u.1 = l0 ∧ u.2.1 = l1 ∧ u.2.2.1 = l2 ∧ u.2.2.2.1 = l3) ∧ (u.2.2.2.2.1 = r0 ∧ u.2.2.2.2.2.1 = r1 ∧ u.2.2.2.2.2.2.1 = r2 ∧ u.2.2.2.2.2.2.2 = r3))) (fun (u : Int64 × Int64 × Int64 × Int64 × Int64 × Int64 × Int64 × Int64) => [(x, .inr (1, [.ref g, .ref t, .ref h, .ref o])), (g, .inr (8, [.ref g0, .ref g1, .ref g2, .ref g3, .int (nI mc)])), (g1, .inr (9, [.long u.1, .long u.2.1, .long u.2.2.1, .long u.2.2.2.1])), (g2, .inr (9, [.long u.2.2.2.2.1, .long u.2.2.2.2.2.1, .long u.2.2.2.2.2.2.1, .long u.2.2.2.2.2.2.2]))]) 0 0 := by
  refine kx_starti (by decide) rfl (Nat.le_of_ble_eq_true rfl) ?_
  intro p e s m below meth c A ls hx hb hr hml hts hown hlocks hin hP hK hN hD hA hS hl
  have hl : lv_has ls 7 [(0, .ref x), (1, .int sd), (2, .int w), (3, .int st2), (4, .int or2), (5, .int sh2)] := hl
  have hown : s.vm.findClass rr_K = some m.cls := hown
  have lk0 := hts _ (kx_m kw_386)
  have hin1 : ∀ w ∈ u_ws rr_K tt_K 4, w ∈ ww_K_skip := fun w h => kx_m (kf_K w h)
  have lk2 := hts _ (kx_m kw_109)
  have hin8 : ∀ w ∈ u_ws rr_Sg tt_Sg 5, w ∈ ww_K_skip := fun w h => kx_m (kf_Sg w h)
  have lk4 := hts _ (kx_m kw_106)
  obtain ⟨H, hH⟩ : ∃ H, H = s.heap := ⟨_, rfl⟩
  obtain ⟨locs, hlocs⟩ : ∃ z : List Loc, z = [] := ⟨_, rfl⟩
  have hP : va_P D vwCl [(x, .inr (1, [.ref g, .ref t, .ref h, .ref o])), (g, .inr (8, [.ref g0, .ref g1, .ref g2, .ref g3, .int (nI mc)])), (g1, .inr (9, [.long l0, .long l1, .long l2, .long l3])), (g2, .inr (9, [.long r0, .long r1, .long r2, .long r3]))] H := by rw [hH]; exact hP
  have hS : va_S A s.heap H locs := by rw [hH, hlocs]; exact hS
  refine kx_gen hH hlocs ?_
  clear hH hlocs
  refine kx_nameQ (fun Q hQ => ?_)
  refine lv_iload_n hx hb dd_K_skip_0 rfl (lv_at hl 1 rfl) ?_
  refine lv_if_lt (tgt := 21) hx hb dd_K_skip_1 (by decide) (fun c1 => ?_) (fun c1 => ?_)
  · skip
    refine lv_iconst (v := nI 0) hx hb dd_K_skip_21 (by decide) ?_
    rw [hQ]
    exact kx_zret hx hb hr hlocks hK hN hS dd_K_skip_22 (by decide) (l0, l1, l2, l3, r0, r1, r2, r3) hP hD (by have hno : ¬ pm_sp sd w st2 or2 sh2 := (by first | exact fun q => q.1.1 c1 | exact fun q => q.1.2 c6 | exact fun q => c18 q.2); exact ⟨kb_f hno, by rw [if_neg hno]; exact ⟨⟨rfl, rfl, rfl, rfl⟩, ⟨rfl, rfl, rfl, rfl⟩⟩⟩)
  · skip
    refine lv_iload_n hx hb dd_K_skip_4 rfl (lv_at hl 1 rfl) ?_
    refine lv_iconst (v := nI 1) hx hb dd_K_skip_5 (by decide) ?_
    refine lv_icmp_gt (tgt := 21) hx hb dd_K_skip_6 (by decide) (fun c6 => ?_) (fun c6 => ?_)
    · skip
      refine lv_iconst (v := nI 0) hx hb dd_K_skip_21 (by decide) ?_
      rw [hQ]
      exact kx_zret hx hb hr hlocks hK hN hS dd_K_skip_22 (by decide) (l0, l1, l2, l3, r0, r1, r2, r3) hP hD (by have hno : ¬ pm_sp sd w st2 or2 sh2 := (by first | exact fun q => q.1.1 c1 | exact fun q => q.1.2 c6 | exact fun q => c18 q.2); exact ⟨kb_f hno, by rw [if_neg hno]; exact ⟨⟨rfl, rfl, rfl, rfl⟩, ⟨rfl, rfl, rfl, rfl⟩⟩⟩)
    · skip
      refine lv_iload_n hx hb dd_K_skip_9 rfl (lv_at hl 2 rfl) ?_
      refine lv_iload_n hx hb dd_K_skip_10 rfl (lv_at hl 3 rfl) ?_
      refine lv_iload hx hb dd_K_skip_11 (lv_at hl 4 rfl) ?_
      refine lv_iload hx hb dd_K_skip_13 (lv_at hl 5 rfl) ?_
      refine kx_calli (wr := [(x, .inr (1, [.ref g, .ref t, .ref h, .ref o])), (g, .inr (8, [.ref g0, .ref g1, .ref g2, .ref g3, .int (nI mc)])), (g1, .inr (9, [.long l0, .long l1, .long l2, .long l3])), (g2, .inr (9, [.long r0, .long r1, .long r2, .long r3]))]) (va_runS (As := [.int w, .int st2, .int or2, .int sh2]) (rest := []) ⟨hx, hb, hml, hown, hts⟩ (ct_K_isGlue l D cI cJ cZ H.size w st2 or2 sh2) ⟨(callB_of 4 hts (kx_good kw_446) rfl rfl rfl (hts _ (kx_m kw_44)) (hts _ (kx_m kw_444)) (by decide +kernel) ⟨Nat.le_of_ble_eq_true rfl, Nat.le_of_ble_eq_true rfl⟩), (hts _ (kx_m kw_445))⟩ (kx_preS hK hN (hP.sub [] kt_4_) (hD.sub [] (by decide) ks_4_)) rfl rfl hl.1 rfl (lv_room (Nat.le_of_ble_eq_true rfl)) dd_K_skip_15 ⟨Nat.le_of_ble_eq_true rfl, Nat.le_of_ble_eq_true rfl⟩) hP hD hS hA [] [0, 1, 2, 3] ks_4_ ks_4_0_1_2_3 (by decide) (by decide) (fun r15 u15 H locs hw15 hP hD hS => ?_)
      have hP : va_P D vwCl [(x, .inr (1, [.ref g, .ref t, .ref h, .ref o])), (g, .inr (8, [.ref g0, .ref g1, .ref g2, .ref g3, .int (nI mc)])), (g1, .inr (9, [.long l0, .long l1, .long l2, .long l3])), (g2, .inr (9, [.long r0, .long r1, .long r2, .long r3]))] H := hP
      have hD : va_D A [(x, .inr (1, [.ref g, .ref t, .ref h, .ref o])), (g, .inr (8, [.ref g0, .ref g1, .ref g2, .ref g3, .int (nI mc)])), (g1, .inr (9, [.long l0, .long l1, .long l2, .long l3])), (g2, .inr (9, [.long r0, .long r1, .long r2, .long r3]))] := hD
      have hw15 : r15 = kb_p (pm_gl w st2 or2 sh2) := hw15
      subst hw15
      refine lv_if_ne (tgt := 23) hx hb dd_K_skip_18 (by decide) (fun c18 => ?_) (fun c18 => ?_)
      · skip
        have c18 : pm_gl w st2 or2 sh2 := kb_1.mp c18
        refine lv_iload_n hx hb dd_K_skip_23 rfl (lv_at hl 1 rfl) ?_
        refine lv_if_ne (tgt := 37) hx hb dd_K_skip_24 (by decide) (fun c24 => ?_) (fun c24 => ?_)
        · skip
          refine lv_aload_n hx hb dd_K_skip_37 rfl (lv_at hl 0 rfl) ?_
          refine va_get (D := D) (ci := 1) (v := .ref g) (C := rr_K) (T := tt_K) (N := 4) hx hb hts hin1 hown hK hP 0 kg_4_0 rfl 0 (by decide) lk0 (fun _ h9 => h9) rfl dd_K_skip_38 ?_
          refine va_get (D := D) (ci := 8) (v := .ref g2) (C := rr_Sg) (T := tt_Sg) (N := 5) hx hb hts hin8 hown hK hP 1 kg_4_1 rfl 2 (by decide) lk2 (fun _ h9 => h9) rfl dd_K_skip_41 ?_
          refine lv_astore (lv' := [(6, .ref g2), (0, .ref x), (1, .int sd), (2, .int w), (3, .int st2), (4, .int or2), (5, .int sh2)]) hx hb dd_K_skip_44 hl (by decide) rfl (fun ls hl => ?_)
          refine lv_aload hx hb dd_K_skip_46 (lv_at hl 0 rfl) ?_
          refine lv_iload_n hx hb dd_K_skip_48 rfl (lv_at hl 3 rfl) ?_
          refine lv_iload_n hx hb dd_K_skip_49 rfl (lv_at hl 4 rfl) ?_
          refine lv_iload hx hb dd_K_skip_50 (lv_at hl 5 rfl) ?_
          refine lv_iload hx hb dd_K_skip_52 (lv_at hl 6 rfl) ?_
          refine kx_callv (wr := [(x, .inr (1, [.ref g, .ref t, .ref h, .ref o])), (g, .inr (8, [.ref g0, .ref g1, .ref g2, .ref g3, .int (nI mc)])), (g1, .inr (9, [.long l0, .long l1, .long l2, .long l3]))]) (va_runV (C := rr_Sp) (As := [.int w, .int st2, .int or2, .int sh2]) (rest := []) ⟨hx, hb, hml, hown, hts⟩ (ct_Sp_set l D cI cJ cZ H.size g2 r0 r1 r2 r3 w st2 or2 sh2) ⟨(callB_of 4 hts (kx_good kw_450) rfl rfl rfl (hts _ (kx_m kw_46)) (hts _ (kx_m kw_447)) (by decide +kernel) ⟨Nat.le_of_ble_eq_true rfl, Nat.le_of_ble_eq_true rfl⟩), (hts _ (kx_m kw_448)), (hts _ (kx_m kw_449))⟩ (kx_preV (ci := 9) (q0 := 0) hK hN (hP.sub [3] kt_4_3) (hD.sub [3] (by decide) ks_4_3) rfl kg_1_0) rfl rfl hl.1 rfl (lv_room (Nat.le_of_ble_eq_true rfl)) dd_K_skip_54 ⟨Nat.le_of_ble_eq_true rfl, Nat.le_of_ble_eq_true rfl⟩) hP hD hS hA [3] [0, 1, 2] ks_4_3 ks_4_0_1_2 (by decide) (by decide) (fun u54 H locs hw54 hP hD hS => ?_)
          have hP : va_P D vwCl [(x, .inr (1, [.ref g, .ref t, .ref h, .ref o])), (g, .inr (8, [.ref g0, .ref g1, .ref g2, .ref g3, .int (nI mc)])), (g1, .inr (9, [.long l0, .long l1, .long l2, .long l3])), (g2, .inr (9, [.long w.toInt64, .long (if or2 = 0 then st2.toInt64 else 0), .long (if or2 = 0 then 0 else st2.toInt64), .long sh2.toInt64]))] H := hP
          have hD : va_D A [(x, .inr (1, [.ref g, .ref t, .ref h, .ref o])), (g, .inr (8, [.ref g0, .ref g1, .ref g2, .ref g3, .int (nI mc)])), (g1, .inr (9, [.long l0, .long l1, .long l2, .long l3])), (g2, .inr (9, [.long w.toInt64, .long (if or2 = 0 then st2.toInt64 else 0), .long (if or2 = 0 then 0 else st2.toInt64), .long sh2.toInt64]))] := hD
          refine lv_iconst (v := nI 1) hx hb dd_K_skip_57 (by decide) ?_
          rw [hQ]
          exact kx_zret hx hb hr hlocks hK hN hS dd_K_skip_58 (by decide) (l0, l1, l2, l3, w.toInt64, if or2 = 0 then st2.toInt64 else 0, if or2 = 0 then 0 else st2.toInt64, sh2.toInt64) hP hD (by have hy : pm_sp sd w st2 or2 sh2 := ⟨⟨c1, c6⟩, c18⟩; refine ⟨kb_t hy, ?_⟩; rw [if_pos hy]; first | (rw [if_pos c24]; exact ⟨⟨rfl, rfl, rfl, rfl⟩, ⟨rfl, rfl, rfl, rfl⟩⟩) | (rw [if_neg c24]; exact ⟨⟨rfl, rfl, rfl, rfl⟩, ⟨rfl, rfl, rfl, rfl⟩⟩))
        · skip
          refine lv_aload_n hx hb dd_K_skip_27 rfl (lv_at hl 0 rfl) ?_
          refine va_get (D := D) (ci := 1) (v := .ref g) (C := rr_K) (T := tt_K) (N := 4) hx hb hts hin1 hown hK hP 0 kg_4_0 rfl 0 (by decide) lk0 (fun _ h9 => h9) rfl dd_K_skip_28 ?_
          refine va_get (D := D) (ci := 8) (v := .ref g1) (C := rr_Sg) (T := tt_Sg) (N := 5) hx hb hts hin8 hown hK hP 1 kg_4_1 rfl 1 (by decide) lk4 (fun _ h9 => h9) rfl dd_K_skip_31 ?_
          refine lv_goto (tgt := 44) hx hb dd_K_skip_34 (by decide) ?_
          refine lv_astore (lv' := [(6, .ref g1), (0, .ref x), (1, .int sd), (2, .int w), (3, .int st2), (4, .int or2), (5, .int sh2)]) hx hb dd_K_skip_44 hl (by decide) rfl (fun ls hl => ?_)
          refine lv_aload hx hb dd_K_skip_46 (lv_at hl 0 rfl) ?_
          refine lv_iload_n hx hb dd_K_skip_48 rfl (lv_at hl 3 rfl) ?_
          refine lv_iload_n hx hb dd_K_skip_49 rfl (lv_at hl 4 rfl) ?_
          refine lv_iload hx hb dd_K_skip_50 (lv_at hl 5 rfl) ?_
          refine lv_iload hx hb dd_K_skip_52 (lv_at hl 6 rfl) ?_
          refine kx_callv (wr := [(x, .inr (1, [.ref g, .ref t, .ref h, .ref o])), (g, .inr (8, [.ref g0, .ref g1, .ref g2, .ref g3, .int (nI mc)])), (g2, .inr (9, [.long r0, .long r1, .long r2, .long r3]))]) (va_runV (C := rr_Sp) (As := [.int w, .int st2, .int or2, .int sh2]) (rest := []) ⟨hx, hb, hml, hown, hts⟩ (ct_Sp_set l D cI cJ cZ H.size g1 l0 l1 l2 l3 w st2 or2 sh2) ⟨(callB_of 4 hts (kx_good kw_450) rfl rfl rfl (hts _ (kx_m kw_46)) (hts _ (kx_m kw_447)) (by decide +kernel) ⟨Nat.le_of_ble_eq_true rfl, Nat.le_of_ble_eq_true rfl⟩), (hts _ (kx_m kw_448)), (hts _ (kx_m kw_449))⟩ (kx_preV (ci := 9) (q0 := 0) hK hN (hP.sub [2] kt_4_2) (hD.sub [2] (by decide) ks_4_2) rfl kg_1_0) rfl rfl hl.1 rfl (lv_room (Nat.le_of_ble_eq_true rfl)) dd_K_skip_54 ⟨Nat.le_of_ble_eq_true rfl, Nat.le_of_ble_eq_true rfl⟩) hP hD hS hA [2] [0, 1, 3] ks_4_2 ks_4_0_1_3 (by decide) (by decide) (fun u54 H locs hw54 hP hD hS => ?_)
          have hP : va_P D vwCl [(x, .inr (1, [.ref g, .ref t, .ref h, .ref o])), (g, .inr (8, [.ref g0, .ref g1, .ref g2, .ref g3, .int (nI mc)])), (g2, .inr (9, [.long r0, .long r1, .long r2, .long r3])), (g1, .inr (9, [.long w.toInt64, .long (if or2 = 0 then st2.toInt64 else 0), .long (if or2 = 0 then 0 else st2.toInt64), .long sh2.toInt64]))] H := hP
          have hD : va_D A [(x, .inr (1, [.ref g, .ref t, .ref h, .ref o])), (g, .inr (8, [.ref g0, .ref g1, .ref g2, .ref g3, .int (nI mc)])), (g2, .inr (9, [.long r0, .long r1, .long r2, .long r3])), (g1, .inr (9, [.long w.toInt64, .long (if or2 = 0 then st2.toInt64 else 0), .long (if or2 = 0 then 0 else st2.toInt64), .long sh2.toInt64]))] := hD
          have hP : va_P D vwCl [(x, .inr (1, [.ref g, .ref t, .ref h, .ref o])), (g, .inr (8, [.ref g0, .ref g1, .ref g2, .ref g3, .int (nI mc)])), (g1, .inr (9, [.long w.toInt64, .long (if or2 = 0 then st2.toInt64 else 0), .long (if or2 = 0 then 0 else st2.toInt64), .long sh2.toInt64])), (g2, .inr (9, [.long r0, .long r1, .long r2, .long r3]))] H := hP.sub [0, 1, 3, 2] kt_4_0_1_3_2
          have hD : va_D A [(x, .inr (1, [.ref g, .ref t, .ref h, .ref o])), (g, .inr (8, [.ref g0, .ref g1, .ref g2, .ref g3, .int (nI mc)])), (g1, .inr (9, [.long w.toInt64, .long (if or2 = 0 then st2.toInt64 else 0), .long (if or2 = 0 then 0 else st2.toInt64), .long sh2.toInt64])), (g2, .inr (9, [.long r0, .long r1, .long r2, .long r3]))] := hD.sub [0, 1, 3, 2] (by decide) ks_4_0_1_3_2
          refine lv_iconst (v := nI 1) hx hb dd_K_skip_57 (by decide) ?_
          rw [hQ]
          exact kx_zret hx hb hr hlocks hK hN hS dd_K_skip_58 (by decide) (w.toInt64, if or2 = 0 then st2.toInt64 else 0, if or2 = 0 then 0 else st2.toInt64, sh2.toInt64, r0, r1, r2, r3) hP hD (by have hy : pm_sp sd w st2 or2 sh2 := ⟨⟨c1, c6⟩, c18⟩; refine ⟨kb_t hy, ?_⟩; rw [if_pos hy]; first | (rw [if_pos c24]; exact ⟨⟨rfl, rfl, rfl, rfl⟩, ⟨rfl, rfl, rfl, rfl⟩⟩) | (rw [if_neg c24]; exact ⟨⟨rfl, rfl, rfl, rfl⟩, ⟨rfl, rfl, rfl, rfl⟩⟩))
      · skip
        have c18 : ¬ (pm_gl w st2 or2 sh2) := kb_0.mp c18
        refine lv_iconst (v := nI 0) hx hb dd_K_skip_21 (by decide) ?_
        rw [hQ]
        exact kx_zret hx hb hr hlocks hK hN hS dd_K_skip_22 (by decide) (l0, l1, l2, l3, r0, r1, r2, r3) hP hD (by have hno : ¬ pm_sp sd w st2 or2 sh2 := (by first | exact fun q => q.1.1 c1 | exact fun q => q.1.2 c6 | exact fun q => c18 q.2); exact ⟨kb_f hno, by rw [if_neg hno]; exact ⟨⟨rfl, rfl, rfl, rfl⟩, ⟨rfl, rfl, rfl, rfl⟩⟩⟩)

theorem dd_K_about_0 : decode bb_K_about 0 = .ok (.iload_n 1, 1) := by decide +kernel
theorem dd_K_about_1 : decode bb_K_about 1 = .ok (.tableswitch (91) (0) (5) #[39, 48, 57, 65, 73, 82], 39) := by decide +kernel
theorem dd_K_about_40 : decode bb_K_about 40 = .ok (.aload_n 0, 1) := by decide +kernel
theorem dd_K_about_41 : decode bb_K_about 41 = .ok (.getfield 35, 3) := by decide +kernel
theorem dd_K_about_44 : decode bb_K_about 44 = .ok (.getfield 140, 3) := by decide +kernel
theorem dd_K_about_47 : decode bb_K_about 47 = .ok (.i2l, 1) := by decide +kernel
theorem dd_K_about_48 : decode bb_K_about 48 = .ok (.lreturn, 1) := by decide +kernel
theorem dd_K_about_49 : decode bb_K_about 49 = .ok (.aload_n 0, 1) := by decide +kernel
theorem dd_K_about_50 : decode bb_K_about 50 = .ok (.getfield 35, 3) := by decide +kernel
theorem dd_K_about_53 : decode bb_K_about 53 = .ok (.getfield 117, 3) := by decide +kernel
theorem dd_K_about_56 : decode bb_K_about 56 = .ok (.i2l, 1) := by decide +kernel
theorem dd_K_about_57 : decode bb_K_about 57 = .ok (.lreturn, 1) := by decide +kernel
theorem dd_K_about_58 : decode bb_K_about 58 = .ok (.aload_n 0, 1) := by decide +kernel
theorem dd_K_about_59 : decode bb_K_about 59 = .ok (.getfield 35, 3) := by decide +kernel
theorem dd_K_about_62 : decode bb_K_about 62 = .ok (.getfield 143, 3) := by decide +kernel
theorem dd_K_about_65 : decode bb_K_about 65 = .ok (.lreturn, 1) := by decide +kernel
theorem dd_K_about_66 : decode bb_K_about 66 = .ok (.aload_n 0, 1) := by decide +kernel
theorem dd_K_about_67 : decode bb_K_about 67 = .ok (.getfield 35, 3) := by decide +kernel
theorem dd_K_about_70 : decode bb_K_about 70 = .ok (.getfield 147, 3) := by decide +kernel
theorem dd_K_about_73 : decode bb_K_about 73 = .ok (.lreturn, 1) := by decide +kernel
theorem dd_K_about_74 : decode bb_K_about 74 = .ok (.aload_n 0, 1) := by decide +kernel
theorem dd_K_about_75 : decode bb_K_about 75 = .ok (.getfield 35, 3) := by decide +kernel
theorem dd_K_about_78 : decode bb_K_about 78 = .ok (.getfield 150, 3) := by decide +kernel
theorem dd_K_about_81 : decode bb_K_about 81 = .ok (.i2l, 1) := by decide +kernel
theorem dd_K_about_82 : decode bb_K_about 82 = .ok (.lreturn, 1) := by decide +kernel
theorem dd_K_about_83 : decode bb_K_about 83 = .ok (.aload_n 0, 1) := by decide +kernel
theorem dd_K_about_84 : decode bb_K_about 84 = .ok (.getfield 19, 3) := by decide +kernel
theorem dd_K_about_87 : decode bb_K_about 87 = .ok (.getfield 94, 3) := by decide +kernel
theorem dd_K_about_90 : decode bb_K_about 90 = .ok (.i2l, 1) := by decide +kernel
theorem dd_K_about_91 : decode bb_K_about 91 = .ok (.lreturn, 1) := by decide +kernel
theorem dd_K_about_92 : decode bb_K_about 92 = .ok (.lconst 0, 1) := by decide +kernel
theorem dd_K_about_93 : decode bb_K_about 93 = .ok (.lreturn, 1) := by decide +kernel

set_option maxHeartbeats 4000000 in
set_option maxRecDepth 100000 in
theorem ct_K_about (l : Launch) (D : va_G) (cI cJ cZ : ClassId) (sz : Nat) (x : Nat) (g : Nat) (t : Nat) (h : Nat) (o : Nat) (cn : Nat) (i1 : Nat) (i2 : Nat) (i3 : Nat) (i4 : Nat) (i5 : Nat) (i6 : Nat) (i7 : Nat) (i8 : Nat) (i9 : Nat) (mp : Nat) (ml : Nat) (mv : Int32) (md : Int64) (mo : Int64) (y0 : Nat) (y1 : Nat) (y2 : Nat) (y3 : Nat) (y4 : Nat) (w : Int32) : kx_Ml l yy_K_about ww_K_about ({ frames := 0, cells := 0, slots := 0, locals := 0 }) D vwCl (kx_ty cI cJ cZ) [.ref x, .int w] [(x, .inr (1, [.ref g, .ref t, .ref h, .ref o])), (t, .inr (4, [.int (nI cn), .ref i1, .ref i2, .ref i3, .ref i4, .ref i5, .ref i6, .ref i7, .ref i8, .ref i9])), (o, .inr (5, [.int (nI mp), .int (nI ml), .int mv, .long md, .long mo, .ref y0, .ref y1, .ref y2, .ref y3, .ref y4]))] sz (fun (r : Int64) (u : Unit) => r = pm_ao mp ml cn md mo mv w) (fun (u : Unit) => [(x, .inr (1, [.ref g, .ref t, .ref h, .ref o])), (t, .inr (4, [.int (nI cn), .ref i1, .ref i2, .ref i3, .ref i4, .ref i5, .ref i6, .ref i7, .ref i8, .ref i9])), (o, .inr (5, [.int (nI mp), .int (nI ml), .int mv, .long md, .long mo, .ref y0, .ref y1, .ref y2, .ref y3, .ref y4]))]) 0 0 := by
  refine kx_startl (by decide) rfl (Nat.le_of_ble_eq_true rfl) ?_
  intro p e s m below meth c A ls hx hb hr hml hts hown hlocks hin hP hK hN hD hA hS hl
  have hl : lv_has ls 2 [(0, .ref x), (1, .int w)] := hl
  have hown : s.vm.findClass rr_K = some m.cls := hown
  have lk0 := hts _ (kx_m kw_389)
  have hin1 : ∀ w ∈ u_ws rr_K tt_K 4, w ∈ ww_K_about := fun w h => kx_m (kf_K w h)
  have lk2 := hts _ (kx_m kw_344)
  have hin5 : ∀ w ∈ u_ws rr_Md tt_Md 10, w ∈ ww_K_about := fun w h => kx_m (kf_Md w h)
  have lk4 := hts _ (kx_m kw_346)
  have lk5 := hts _ (kx_m kw_351)
  have lk6 := hts _ (kx_m kw_354)
  have lk7 := hts _ (kx_m kw_348)
  have lk8 := hts _ (kx_m kw_387)
  have lk9 := hts _ (kx_m kw_133)
  have hin4 : ∀ w ∈ u_ws rr_It tt_It 10, w ∈ ww_K_about := fun w h => kx_m (kf_It w h)
  obtain ⟨H, hH⟩ : ∃ H, H = s.heap := ⟨_, rfl⟩
  obtain ⟨locs, hlocs⟩ : ∃ z : List Loc, z = [] := ⟨_, rfl⟩
  have hP : va_P D vwCl [(x, .inr (1, [.ref g, .ref t, .ref h, .ref o])), (t, .inr (4, [.int (nI cn), .ref i1, .ref i2, .ref i3, .ref i4, .ref i5, .ref i6, .ref i7, .ref i8, .ref i9])), (o, .inr (5, [.int (nI mp), .int (nI ml), .int mv, .long md, .long mo, .ref y0, .ref y1, .ref y2, .ref y3, .ref y4]))] H := by rw [hH]; exact hP
  have hS : va_S A s.heap H locs := by rw [hH, hlocs]; exact hS
  refine kx_gen hH hlocs ?_
  clear hH hlocs
  refine kx_nameQ (fun Q hQ => ?_)
  refine lv_iload_n hx hb dd_K_about_0 rfl (lv_at hl 1 rfl) ?_
  by_cases t1_0 : w = nI 0
  · skip
    refine kx_toN (n := 0) t1_0 ?_
    refine lv_tableIn (off := (39)) (tgt := 40) hx hb dd_K_about_1 (by decide +kernel) (by decide +kernel) (by decide +kernel) (by decide) ?_
    refine lv_aload_n hx hb dd_K_about_40 rfl (lv_at hl 0 rfl) ?_
    refine va_get (D := D) (ci := 1) (v := .ref o) (C := rr_K) (T := tt_K) (N := 4) hx hb hts hin1 hown hK hP 0 kg_3_0 rfl 3 (by decide) lk0 (fun _ h9 => h9) rfl dd_K_about_41 ?_
    refine va_get (D := D) (ci := 5) (v := .int (nI mp)) (C := rr_Md) (T := tt_Md) (N := 10) hx hb hts hin5 hown hK hP 2 kg_3_2 rfl 0 (by decide) lk2 (fun _ h9 => h9) rfl dd_K_about_44 ?_
    refine lv_i2l hx hb dd_K_about_47 rfl ?_
    rw [hQ]
    exact kx_lret hx hb hr hlocks hK hN hS dd_K_about_48 () hP hD (by unfold pm_ao; rw [← nI_0]; (simp only [t1_0, if_true, if_false]) <;> first | rfl | decide)
  by_cases t1_1 : w = nI 1
  · skip
    refine kx_toN (n := 1) t1_1 ?_
    refine lv_tableIn (off := (48)) (tgt := 49) hx hb dd_K_about_1 (by decide +kernel) (by decide +kernel) (by decide +kernel) (by decide) ?_
    refine lv_aload_n hx hb dd_K_about_49 rfl (lv_at hl 0 rfl) ?_
    refine va_get (D := D) (ci := 1) (v := .ref o) (C := rr_K) (T := tt_K) (N := 4) hx hb hts hin1 hown hK hP 0 kg_3_0 rfl 3 (by decide) lk0 (fun _ h9 => h9) rfl dd_K_about_50 ?_
    refine va_get (D := D) (ci := 5) (v := .int (nI ml)) (C := rr_Md) (T := tt_Md) (N := 10) hx hb hts hin5 hown hK hP 2 kg_3_2 rfl 1 (by decide) lk4 (fun _ h9 => h9) rfl dd_K_about_53 ?_
    refine lv_i2l hx hb dd_K_about_56 rfl ?_
    rw [hQ]
    exact kx_lret hx hb hr hlocks hK hN hS dd_K_about_57 () hP hD (by unfold pm_ao; rw [← nI_0]; (simp only [t1_0, t1_1, if_true, if_false]) <;> first | rfl | decide)
  by_cases t1_2 : w = nI 2
  · skip
    refine kx_toN (n := 2) t1_2 ?_
    refine lv_tableIn (off := (57)) (tgt := 58) hx hb dd_K_about_1 (by decide +kernel) (by decide +kernel) (by decide +kernel) (by decide) ?_
    refine lv_aload_n hx hb dd_K_about_58 rfl (lv_at hl 0 rfl) ?_
    refine va_get (D := D) (ci := 1) (v := .ref o) (C := rr_K) (T := tt_K) (N := 4) hx hb hts hin1 hown hK hP 0 kg_3_0 rfl 3 (by decide) lk0 (fun _ h9 => h9) rfl dd_K_about_59 ?_
    refine va_get (D := D) (ci := 5) (v := .long md) (C := rr_Md) (T := tt_Md) (N := 10) hx hb hts hin5 hown hK hP 2 kg_3_2 rfl 3 (by decide) lk5 (fun _ h9 => h9) rfl dd_K_about_62 ?_
    rw [hQ]
    exact kx_lret hx hb hr hlocks hK hN hS dd_K_about_65 () hP hD (by unfold pm_ao; rw [← nI_0]; (simp only [t1_0, t1_1, t1_2, if_true, if_false]) <;> first | rfl | decide)
  by_cases t1_3 : w = nI 3
  · skip
    refine kx_toN (n := 3) t1_3 ?_
    refine lv_tableIn (off := (65)) (tgt := 66) hx hb dd_K_about_1 (by decide +kernel) (by decide +kernel) (by decide +kernel) (by decide) ?_
    refine lv_aload_n hx hb dd_K_about_66 rfl (lv_at hl 0 rfl) ?_
    refine va_get (D := D) (ci := 1) (v := .ref o) (C := rr_K) (T := tt_K) (N := 4) hx hb hts hin1 hown hK hP 0 kg_3_0 rfl 3 (by decide) lk0 (fun _ h9 => h9) rfl dd_K_about_67 ?_
    refine va_get (D := D) (ci := 5) (v := .long mo) (C := rr_Md) (T := tt_Md) (N := 10) hx hb hts hin5 hown hK hP 2 kg_3_2 rfl 4 (by decide) lk6 (fun _ h9 => h9) rfl dd_K_about_70 ?_
    rw [hQ]
    exact kx_lret hx hb hr hlocks hK hN hS dd_K_about_73 () hP hD (by unfold pm_ao; rw [← nI_0]; (simp only [t1_0, t1_1, t1_2, t1_3, if_true, if_false]) <;> first | rfl | decide)
  by_cases t1_4 : w = nI 4
  · skip
    refine kx_toN (n := 4) t1_4 ?_
    refine lv_tableIn (off := (73)) (tgt := 74) hx hb dd_K_about_1 (by decide +kernel) (by decide +kernel) (by decide +kernel) (by decide) ?_
    refine lv_aload_n hx hb dd_K_about_74 rfl (lv_at hl 0 rfl) ?_
    refine va_get (D := D) (ci := 1) (v := .ref o) (C := rr_K) (T := tt_K) (N := 4) hx hb hts hin1 hown hK hP 0 kg_3_0 rfl 3 (by decide) lk0 (fun _ h9 => h9) rfl dd_K_about_75 ?_
    refine va_get (D := D) (ci := 5) (v := .int mv) (C := rr_Md) (T := tt_Md) (N := 10) hx hb hts hin5 hown hK hP 2 kg_3_2 rfl 2 (by decide) lk7 (fun _ h9 => h9) rfl dd_K_about_78 ?_
    refine lv_i2l hx hb dd_K_about_81 rfl ?_
    rw [hQ]
    exact kx_lret hx hb hr hlocks hK hN hS dd_K_about_82 () hP hD (by unfold pm_ao; rw [← nI_0]; (simp only [t1_0, t1_1, t1_2, t1_3, t1_4, if_true, if_false]) <;> first | rfl | decide)
  by_cases t1_5 : w = nI 5
  · skip
    refine kx_toN (n := 5) t1_5 ?_
    refine lv_tableIn (off := (82)) (tgt := 83) hx hb dd_K_about_1 (by decide +kernel) (by decide +kernel) (by decide +kernel) (by decide) ?_
    refine lv_aload_n hx hb dd_K_about_83 rfl (lv_at hl 0 rfl) ?_
    refine va_get (D := D) (ci := 1) (v := .ref t) (C := rr_K) (T := tt_K) (N := 4) hx hb hts hin1 hown hK hP 0 kg_3_0 rfl 1 (by decide) lk8 (fun _ h9 => h9) rfl dd_K_about_84 ?_
    refine va_get (D := D) (ci := 4) (v := .int (nI cn)) (C := rr_It) (T := tt_It) (N := 10) hx hb hts hin4 hown hK hP 1 kg_3_1 rfl 0 (by decide) lk9 (fun _ h9 => h9) rfl dd_K_about_87 ?_
    refine lv_i2l hx hb dd_K_about_90 rfl ?_
    rw [hQ]
    exact kx_lret hx hb hr hlocks hK hN hS dd_K_about_91 () hP hD (by unfold pm_ao; rw [← nI_0]; (simp only [t1_0, t1_1, t1_2, t1_3, t1_4, t1_5, if_true, if_false]) <;> first | rfl | decide)
  refine lv_tableOut (tgt := 92) hx hb dd_K_about_1 (by have := lv_neT t1_0 (a := 0) (by decide +kernel); have := lv_neT t1_1 (a := 1) (by decide +kernel); have := lv_neT t1_2 (a := 2) (by decide +kernel); have := lv_neT t1_3 (a := 3) (by decide +kernel); have := lv_neT t1_4 (a := 4) (by decide +kernel); have := lv_neT t1_5 (a := 5) (by decide +kernel); omega) (by decide) ?_
  refine lv_lconst (v := 0) hx hb dd_K_about_92 (by decide) ?_
  rw [hQ]
  exact kx_lret hx hb hr hlocks hK hN hS dd_K_about_93 () hP hD (by unfold pm_ao; rw [← nI_0]; (simp only [t1_0, t1_1, t1_2, t1_3, t1_4, t1_5, if_true, if_false]) <;> first | rfl | decide)

theorem dd_K_glue_0 : decode bb_K_glue 0 = .ok (.iload_n 1, 1) := by decide +kernel
theorem dd_K_glue_1 : decode bb_K_glue 1 = .ok (.iload_n 2, 1) := by decide +kernel
theorem dd_K_glue_2 : decode bb_K_glue 2 = .ok (.iload_n 3, 1) := by decide +kernel
theorem dd_K_glue_3 : decode bb_K_glue 3 = .ok (.iload 4, 2) := by decide +kernel
theorem dd_K_glue_5 : decode bb_K_glue 5 = .ok (.invokestatic 56, 3) := by decide +kernel
theorem dd_K_glue_8 : decode bb_K_glue 8 = .ok (.ifCond .ne (5), 3) := by decide +kernel
theorem dd_K_glue_11 : decode bb_K_glue 11 = .ok (.iconst (-1), 1) := by decide +kernel
theorem dd_K_glue_12 : decode bb_K_glue 12 = .ok (.ireturn, 1) := by decide +kernel
theorem dd_K_glue_13 : decode bb_K_glue 13 = .ok (.aload_n 0, 1) := by decide +kernel
theorem dd_K_glue_14 : decode bb_K_glue 14 = .ok (.getfield 19, 3) := by decide +kernel
theorem dd_K_glue_17 : decode bb_K_glue 17 = .ok (.iconst 1, 1) := by decide +kernel
theorem dd_K_glue_18 : decode bb_K_glue 18 = .ok (.iload_n 1, 1) := by decide +kernel
theorem dd_K_glue_19 : decode bb_K_glue 19 = .ok (.invokevirtual 73, 3) := by decide +kernel
theorem dd_K_glue_22 : decode bb_K_glue 22 = .ok (.istore 5, 2) := by decide +kernel
theorem dd_K_glue_24 : decode bb_K_glue 24 = .ok (.aload_n 0, 1) := by decide +kernel
theorem dd_K_glue_25 : decode bb_K_glue 25 = .ok (.getfield 19, 3) := by decide +kernel
theorem dd_K_glue_28 : decode bb_K_glue 28 = .ok (.iload 5, 2) := by decide +kernel
theorem dd_K_glue_30 : decode bb_K_glue 30 = .ok (.iload_n 2, 1) := by decide +kernel
theorem dd_K_glue_31 : decode bb_K_glue 31 = .ok (.iload_n 3, 1) := by decide +kernel
theorem dd_K_glue_32 : decode bb_K_glue 32 = .ok (.iload 4, 2) := by decide +kernel
theorem dd_K_glue_34 : decode bb_K_glue 34 = .ok (.invokevirtual 77, 3) := by decide +kernel
theorem dd_K_glue_37 : decode bb_K_glue 37 = .ok (.iload 5, 2) := by decide +kernel
theorem dd_K_glue_39 : decode bb_K_glue 39 = .ok (.ireturn, 1) := by decide +kernel

set_option maxHeartbeats 4000000 in
set_option maxRecDepth 100000 in
theorem ct_K_glue (l : Launch) (D : va_G) (cI cJ cZ : ClassId) (sz : Nat) (x : Nat) (g : Nat) (t : Nat) (h : Nat) (o : Nat) (cn : Nat) (i1 : Nat) (i2 : Nat) (i3 : Nat) (i4 : Nat) (i5 : Nat) (i6 : Nat) (i7 : Nat) (i8 : Nat) (i9 : Nat) (ln : Nat) (ik : Nat → Int32) (ic : Nat → Int32) (ia : Nat → Int32) (ib : Nat → Int32) (if_ : Nat → Int32) (iw : Nat → Int64) (is_ : Nat → Int64) (ih : Nat → Int64) (ij : Nat → Int64) (w : Int32) (st2 : Int32) (or2 : Int32) (sh2 : Int32) (hy : pm_gl w st2 or2 sh2) (h1 : cn < 4096) (h2 : cn ≤ ln) (h3 : ln ≤ 4096) : kx_Mi l yy_K_glue ww_K_glue ({ frames := 4, cells := kg_c ln (cn + 1) 9, slots := kg_s ln (cn + 1) 4096 9 + kg_c ln (cn + 1) 4, locals := 99 }) D vwCl (kx_ty cI cJ cZ) [.ref x, .int w, .int st2, .int or2, .int sh2] [(x, .inr (1, [.ref g, .ref t, .ref h, .ref o])), (t, .inr (4, [.int (nI cn), .ref i1, .ref i2, .ref i3, .ref i4, .ref i5, .ref i6, .ref i7, .ref i8, .ref i9])), (i1, .inl (cI, ln, .inl ik)), (i2, .inl (cI, ln, .inl ic)), (i3, .inl (cI, ln, .inl ia)), (i4, .inl (cI, ln, .inl ib)), (i5, .inl (cI, ln, .inl if_)), (i6, .inl (cJ, (ln + 1), .inr (.inl iw))), (i7, .inl (cJ, (ln + 1), .inr (.inl is_))), (i8, .inl (cJ, (ln + 1), .inr (.inl ih))), (i9, .inl (cJ, (ln + 1), .inr (.inl ij)))] sz (fun (r : Int32) (u : Nat × Nat × Nat × Nat × Nat × Nat × Nat × Nat × Nat × Nat × (Nat → Int32) × (Nat → Int32) × (Nat → Int32) × (Nat → Int32) × (Nat → Int32) × (Nat → Int64) × (Nat → Int64) × (Nat → Int64) × (Nat → Int64)) => (r = nI cn) ∧ (u.2.2.2.2.2.2.2.2.2.1 = kg_n ln (cn + 1) 4096 ∧ (∀ j, j < cn → u.2.2.2.2.2.2.2.2.2.2.1 j = ik j ∧ u.2.2.2.2.2.2.2.2.2.2.2.1 j = ic j ∧ u.2.2.2.2.2.2.2.2.2.2.2.2.1 j = ia j ∧ u.2.2.2.2.2.2.2.2.2.2.2.2.2.1 j = ib j ∧ u.2.2.2.2.2.2.2.2.2.2.2.2.2.2.1 j = if_ j) ∧ u.2.2.2.2.2.2.2.2.2.2.1 cn = nI 1 ∧ (∀ j, j < cn + 1 → u.2.2.2.2.2.2.2.2.2.2.2.2.2.2.2.1 j = iw j ∧ u.2.2.2.2.2.2.2.2.2.2.2.2.2.2.2.2.1 j = is_ j ∧ u.2.2.2.2.2.2.2.2.2.2.2.2.2.2.2.2.2.1 j = ih j ∧ u.2.2.2.2.2.2.2.2.2.2.2.2.2.2.2.2.2.2 j = ij j) ∧ u.2.2.2.2.2.2.2.2.2.2.2.2.2.2.2.1 (cn + 1) = iw cn + w.toInt64 ∧ u.2.2.2.2.2.2.2.2.2.2.2.2.2.2.2.2.1 (cn + 1) = (if or2 = 0 then is_ cn + st2.toInt64 else is_ cn) ∧ u.2.2.2.2.2.2.2.2.2.2.2.2.2.2.2.2.2.1 (cn + 1) = (if or2 = 0 then ih cn else ih cn + st2.toInt64) ∧ u.2.2.2.2.2.2.2.2.2.2.2.2.2.2.2.2.2.2 (cn + 1) = ij cn + sh2.toInt64)) (fun (u : Nat × Nat × Nat × Nat × Nat × Nat × Nat × Nat × Nat × Nat × (Nat → Int32) × (Nat → Int32) × (Nat → Int32) × (Nat → Int32) × (Nat → Int32) × (Nat → Int64) × (Nat → Int64) × (Nat → Int64) × (Nat → Int64)) => [(x, .inr (1, [.ref g, .ref t, .ref h, .ref o])), (t, .inr (4, [.int (nI (cn + 1)), .ref u.1, .ref u.2.1, .ref u.2.2.1, .ref u.2.2.2.1, .ref u.2.2.2.2.1, .ref u.2.2.2.2.2.1, .ref u.2.2.2.2.2.2.1, .ref u.2.2.2.2.2.2.2.1, .ref u.2.2.2.2.2.2.2.2.1])), (u.1, .inl (cI, u.2.2.2.2.2.2.2.2.2.1, .inl u.2.2.2.2.2.2.2.2.2.2.1)), (u.2.1, .inl (cI, u.2.2.2.2.2.2.2.2.2.1, .inl u.2.2.2.2.2.2.2.2.2.2.2.1)), (u.2.2.1, .inl (cI, u.2.2.2.2.2.2.2.2.2.1, .inl u.2.2.2.2.2.2.2.2.2.2.2.2.1)), (u.2.2.2.1, .inl (cI, u.2.2.2.2.2.2.2.2.2.1, .inl u.2.2.2.2.2.2.2.2.2.2.2.2.2.1)), (u.2.2.2.2.1, .inl (cI, u.2.2.2.2.2.2.2.2.2.1, .inl u.2.2.2.2.2.2.2.2.2.2.2.2.2.2.1)), (u.2.2.2.2.2.1, .inl (cJ, (u.2.2.2.2.2.2.2.2.2.1 + 1), .inr (.inl u.2.2.2.2.2.2.2.2.2.2.2.2.2.2.2.1))), (u.2.2.2.2.2.2.1, .inl (cJ, (u.2.2.2.2.2.2.2.2.2.1 + 1), .inr (.inl u.2.2.2.2.2.2.2.2.2.2.2.2.2.2.2.2.1))), (u.2.2.2.2.2.2.2.1, .inl (cJ, (u.2.2.2.2.2.2.2.2.2.1 + 1), .inr (.inl u.2.2.2.2.2.2.2.2.2.2.2.2.2.2.2.2.2.1))), (u.2.2.2.2.2.2.2.2.1, .inl (cJ, (u.2.2.2.2.2.2.2.2.2.1 + 1), .inr (.inl u.2.2.2.2.2.2.2.2.2.2.2.2.2.2.2.2.2.2)))]) (kg_c ln (cn + 1) 9) (kg_s ln (cn + 1) 4096 9 + kg_c ln (cn + 1) 4) := by
  refine kx_starti (by decide) rfl (Nat.le_of_ble_eq_true rfl) ?_
  intro p e s m below meth c A ls hx hb hr hml hts hown hlocks hin hP hK hN hD hA hS hl
  have hl : lv_has ls 6 [(0, .ref x), (1, .int w), (2, .int st2), (3, .int or2), (4, .int sh2)] := hl
  have hown : s.vm.findClass rr_K = some m.cls := hown
  have lk0 := hts _ (kx_m kw_387)
  have hin1 : ∀ w ∈ u_ws rr_K tt_K 4, w ∈ ww_K_glue := fun w h => kx_m (kf_K w h)
  obtain ⟨H, hH⟩ : ∃ H, H = s.heap := ⟨_, rfl⟩
  obtain ⟨locs, hlocs⟩ : ∃ z : List Loc, z = [] := ⟨_, rfl⟩
  have hP : va_P D vwCl [(x, .inr (1, [.ref g, .ref t, .ref h, .ref o])), (t, .inr (4, [.int (nI cn), .ref i1, .ref i2, .ref i3, .ref i4, .ref i5, .ref i6, .ref i7, .ref i8, .ref i9])), (i1, .inl (cI, ln, .inl ik)), (i2, .inl (cI, ln, .inl ic)), (i3, .inl (cI, ln, .inl ia)), (i4, .inl (cI, ln, .inl ib)), (i5, .inl (cI, ln, .inl if_)), (i6, .inl (cJ, (ln + 1), .inr (.inl iw))), (i7, .inl (cJ, (ln + 1), .inr (.inl is_))), (i8, .inl (cJ, (ln + 1), .inr (.inl ih))), (i9, .inl (cJ, (ln + 1), .inr (.inl ij)))] H := by rw [hH]; exact hP
  have hS : va_S A s.heap H locs := by rw [hH, hlocs]; exact hS
  refine kx_gen hH hlocs ?_
  clear hH hlocs
  refine kx_nameQ (fun Q hQ => ?_)
  refine lv_iload_n hx hb dd_K_glue_0 rfl (lv_at hl 1 rfl) ?_
  refine lv_iload_n hx hb dd_K_glue_1 rfl (lv_at hl 2 rfl) ?_
  refine lv_iload_n hx hb dd_K_glue_2 rfl (lv_at hl 3 rfl) ?_
  refine lv_iload hx hb dd_K_glue_3 (lv_at hl 4 rfl) ?_
  refine kx_calli (wr := [(x, .inr (1, [.ref g, .ref t, .ref h, .ref o])), (t, .inr (4, [.int (nI cn), .ref i1, .ref i2, .ref i3, .ref i4, .ref i5, .ref i6, .ref i7, .ref i8, .ref i9])), (i1, .inl (cI, ln, .inl ik)), (i2, .inl (cI, ln, .inl ic)), (i3, .inl (cI, ln, .inl ia)), (i4, .inl (cI, ln, .inl ib)), (i5, .inl (cI, ln, .inl if_)), (i6, .inl (cJ, (ln + 1), .inr (.inl iw))), (i7, .inl (cJ, (ln + 1), .inr (.inl is_))), (i8, .inl (cJ, (ln + 1), .inr (.inl ih))), (i9, .inl (cJ, (ln + 1), .inr (.inl ij)))]) (va_runS (As := [.int w, .int st2, .int or2, .int sh2]) (rest := []) ⟨hx, hb, hml, hown, hts⟩ (ct_K_isGlue l D cI cJ cZ H.size w st2 or2 sh2) ⟨(callB_of 4 hts (kx_good kw_446) rfl rfl rfl (hts _ (kx_m kw_44)) (hts _ (kx_m kw_444)) (by decide +kernel) ⟨Nat.le_of_ble_eq_true rfl, Nat.le_of_ble_eq_true rfl⟩), (hts _ (kx_m kw_445))⟩ (kx_preS hK hN (hP.sub [] kt_11_) (hD.sub [] (by decide) ks_11_)) rfl rfl hl.1 rfl (lv_room (Nat.le_of_ble_eq_true rfl)) dd_K_glue_5 ⟨(by show 0 + 0 ≤ (kg_c ln (cn + 1) 9); first | exact Nat.le_refl _ | omega), (by show 0 + 0 ≤ (kg_s ln (cn + 1) 4096 9 + kg_c ln (cn + 1) 4); first | exact Nat.le_refl _ | omega)⟩) hP hD hS hA [] [0, 1, 2, 3, 4, 5, 6, 7, 8, 9, 10] ks_11_ ks_11_0_1_2_3_4_5_6_7_8_9_10 (by decide) (by decide) (fun r5 u5 H locs hw5 hP hD hS => ?_)
  refine kx_bud (cells := 0) (slots := 0) ?_ (by omega) (by omega)
  have hP : va_P D vwCl [(x, .inr (1, [.ref g, .ref t, .ref h, .ref o])), (t, .inr (4, [.int (nI cn), .ref i1, .ref i2, .ref i3, .ref i4, .ref i5, .ref i6, .ref i7, .ref i8, .ref i9])), (i1, .inl (cI, ln, .inl ik)), (i2, .inl (cI, ln, .inl ic)), (i3, .inl (cI, ln, .inl ia)), (i4, .inl (cI, ln, .inl ib)), (i5, .inl (cI, ln, .inl if_)), (i6, .inl (cJ, (ln + 1), .inr (.inl iw))), (i7, .inl (cJ, (ln + 1), .inr (.inl is_))), (i8, .inl (cJ, (ln + 1), .inr (.inl ih))), (i9, .inl (cJ, (ln + 1), .inr (.inl ij)))] H := hP
  have hD : va_D A [(x, .inr (1, [.ref g, .ref t, .ref h, .ref o])), (t, .inr (4, [.int (nI cn), .ref i1, .ref i2, .ref i3, .ref i4, .ref i5, .ref i6, .ref i7, .ref i8, .ref i9])), (i1, .inl (cI, ln, .inl ik)), (i2, .inl (cI, ln, .inl ic)), (i3, .inl (cI, ln, .inl ia)), (i4, .inl (cI, ln, .inl ib)), (i5, .inl (cI, ln, .inl if_)), (i6, .inl (cJ, (ln + 1), .inr (.inl iw))), (i7, .inl (cJ, (ln + 1), .inr (.inl is_))), (i8, .inl (cJ, (ln + 1), .inr (.inl ih))), (i9, .inl (cJ, (ln + 1), .inr (.inl ij)))] := hD
  have hw5 : r5 = kb_p (pm_gl w st2 or2 sh2) := hw5
  subst hw5
  refine lv_if_ne (tgt := 13) hx hb dd_K_glue_8 (by decide) (fun c8 => ?_) (fun c8 => ?_)
  · skip
    have c8 : pm_gl w st2 or2 sh2 := kb_1.mp c8
    refine lv_aload_n hx hb dd_K_glue_13 rfl (lv_at hl 0 rfl) ?_
    refine va_get (D := D) (ci := 1) (v := .ref t) (C := rr_K) (T := tt_K) (N := 4) hx hb hts hin1 hown hK hP 0 kg_11_0 rfl 1 (by decide) lk0 (fun _ h9 => h9) rfl dd_K_glue_14 ?_
    refine lv_iconst (v := nI 1) hx hb dd_K_glue_17 (by decide) ?_
    refine lv_iload_n hx hb dd_K_glue_18 rfl (lv_at hl 1 rfl) ?_
    refine kx_calli (wr := [(x, .inr (1, [.ref g, .ref t, .ref h, .ref o]))]) (va_runV (C := rr_It) (As := [.int (nI 1), .int w]) (rest := []) ⟨hx, hb, hml, hown, hts⟩ (ct_It_append l D cI cJ cZ H.size t cn i1 i2 i3 i4 i5 i6 i7 i8 i9 ln ik ic ia ib if_ iw is_ ih ij (nI 1) w (by omega) (by omega) (by omega)) ⟨(callB_of 2 hts (kx_good kw_458) rfl rfl rfl (hts _ (kx_m kw_47)) (hts _ (kx_m kw_455)) (by decide +kernel) ⟨Nat.le_of_ble_eq_true rfl, Nat.le_of_ble_eq_true rfl⟩), (hts _ (kx_m kw_456)), (hts _ (kx_m kw_457))⟩ (kx_preV (ci := 4) (q0 := 0) hK hN (hP.sub [1, 2, 3, 4, 5, 6, 7, 8, 9, 10] kt_11_1_2_3_4_5_6_7_8_9_10) (hD.sub [1, 2, 3, 4, 5, 6, 7, 8, 9, 10] (by decide) ks_11_1_2_3_4_5_6_7_8_9_10) rfl kg_10_0) rfl rfl hl.1 rfl (lv_room (Nat.le_of_ble_eq_true rfl)) dd_K_glue_19 ⟨(by show 0 + (kg_c ln (cn + 1) 9) ≤ (kg_c ln (cn + 1) 9); first | exact Nat.le_refl _ | omega), (by show 0 + (kg_s ln (cn + 1) 4096 9 + kg_c ln (cn + 1) 4) ≤ (kg_s ln (cn + 1) 4096 9 + kg_c ln (cn + 1) 4); first | exact Nat.le_refl _ | omega)⟩) hP hD hS hA [1, 2, 3, 4, 5, 6, 7, 8, 9, 10] [0] ks_11_1_2_3_4_5_6_7_8_9_10 ks_11_0 (by decide) (by decide) (fun r19 u19 H locs hw19 hP hD hS => ?_)
    refine kx_bud (cells := kg_c ln (cn + 1) 9) (slots := kg_s ln (cn + 1) 4096 9 + kg_c ln (cn + 1) 4) ?_ (by omega) (by omega)
    obtain ⟨i12_19, i22_19, i32_19, i42_19, i52_19, i62_19, i72_19, i82_19, i92_19, ln2_19, ik2_19, ic2_19, ia2_19, ib2_19, if_2_19, iw2_19, is_2_19, ih2_19, ij2_19⟩ := u19
    have hP : va_P D vwCl [(x, .inr (1, [.ref g, .ref t, .ref h, .ref o])), (t, .inr (4, [.int (nI (cn + 1)), .ref i12_19, .ref i22_19, .ref i32_19, .ref i42_19, .ref i52_19, .ref i62_19, .ref i72_19, .ref i82_19, .ref i92_19])), (i12_19, .inl (cI, ln2_19, .inl ik2_19)), (i22_19, .inl (cI, ln2_19, .inl ic2_19)), (i32_19, .inl (cI, ln2_19, .inl ia2_19)), (i42_19, .inl (cI, ln2_19, .inl ib2_19)), (i52_19, .inl (cI, ln2_19, .inl if_2_19)), (i62_19, .inl (cJ, (ln2_19 + 1), .inr (.inl iw2_19))), (i72_19, .inl (cJ, (ln2_19 + 1), .inr (.inl is_2_19))), (i82_19, .inl (cJ, (ln2_19 + 1), .inr (.inl ih2_19))), (i92_19, .inl (cJ, (ln2_19 + 1), .inr (.inl ij2_19)))] H := hP
    have hD : va_D A [(x, .inr (1, [.ref g, .ref t, .ref h, .ref o])), (t, .inr (4, [.int (nI (cn + 1)), .ref i12_19, .ref i22_19, .ref i32_19, .ref i42_19, .ref i52_19, .ref i62_19, .ref i72_19, .ref i82_19, .ref i92_19])), (i12_19, .inl (cI, ln2_19, .inl ik2_19)), (i22_19, .inl (cI, ln2_19, .inl ic2_19)), (i32_19, .inl (cI, ln2_19, .inl ia2_19)), (i42_19, .inl (cI, ln2_19, .inl ib2_19)), (i52_19, .inl (cI, ln2_19, .inl if_2_19)), (i62_19, .inl (cJ, (ln2_19 + 1), .inr (.inl iw2_19))), (i72_19, .inl (cJ, (ln2_19 + 1), .inr (.inl is_2_19))), (i82_19, .inl (cJ, (ln2_19 + 1), .inr (.inl ih2_19))), (i92_19, .inl (cJ, (ln2_19 + 1), .inr (.inl ij2_19)))] := hD
    obtain ⟨rfl, hw19⟩ := hw19
    have hw19 : ln2_19 = kg_n ln (cn + 1) 4096 ∧ (∀ j, j < cn → ik2_19 j = ik j ∧ ic2_19 j = ic j ∧ ia2_19 j = ia j ∧ ib2_19 j = ib j ∧ if_2_19 j = if_ j) ∧ ik2_19 cn = (nI 1) ∧ (∀ j, j < cn + 1 → iw2_19 j = iw j ∧ is_2_19 j = is_ j ∧ ih2_19 j = ih j ∧ ij2_19 j = ij j) ∧ iw2_19 (cn + 1) = iw cn + w.toInt64 ∧ is_2_19 (cn + 1) = is_ cn ∧ ih2_19 (cn + 1) = ih cn ∧ ij2_19 (cn + 1) = ij cn := hw19
    have hlnP : cn + 1 ≤ ln2_19 ∧ ln2_19 < 2 ^ 20 := by have h9 := hw19.1; rw [h9]; unfold kg_n; split <;> omega
    refine lv_istore (lv' := [(5, .int (nI cn)), (0, .ref x), (1, .int w), (2, .int st2), (3, .int or2), (4, .int sh2)]) hx hb dd_K_glue_22 hl (by decide) rfl (fun ls hl => ?_)
    refine lv_aload_n hx hb dd_K_glue_24 rfl (lv_at hl 1 rfl) ?_
    refine va_get (D := D) (ci := 1) (v := .ref t) (C := rr_K) (T := tt_K) (N := 4) hx hb hts hin1 hown hK hP 0 kg_11_0 rfl 1 (by decide) lk0 (fun _ h9 => h9) rfl dd_K_glue_25 ?_
    refine lv_iload hx hb dd_K_glue_28 (lv_at hl 0 rfl) ?_
    refine lv_iload_n hx hb dd_K_glue_30 rfl (lv_at hl 3 rfl) ?_
    refine lv_iload_n hx hb dd_K_glue_31 rfl (lv_at hl 4 rfl) ?_
    refine lv_iload hx hb dd_K_glue_32 (lv_at hl 5 rfl) ?_
    refine kx_callv (wr := [(x, .inr (1, [.ref g, .ref t, .ref h, .ref o])), (i12_19, .inl (cI, ln2_19, .inl ik2_19)), (i22_19, .inl (cI, ln2_19, .inl ic2_19)), (i32_19, .inl (cI, ln2_19, .inl ia2_19)), (i42_19, .inl (cI, ln2_19, .inl ib2_19)), (i52_19, .inl (cI, ln2_19, .inl if_2_19)), (i62_19, .inl (cJ, (ln2_19 + 1), .inr (.inl iw2_19)))]) (va_runV (C := rr_It) (As := [.int (nI cn), .int st2, .int or2, .int sh2]) (rest := []) ⟨hx, hb, hml, hown, hts⟩ (ct_It_addSpring l D cI cJ cZ H.size t (cn + 1) i12_19 i22_19 i32_19 i42_19 i52_19 i62_19 i72_19 i82_19 i92_19 ln2_19 is_2_19 ih2_19 ij2_19 cn st2 or2 sh2 (by omega) (by omega) (by omega)) ⟨(callB_of 4 hts (kx_good kw_480) rfl rfl rfl (hts _ (kx_m kw_47)) (hts _ (kx_m kw_477)) (by decide +kernel) ⟨Nat.le_of_ble_eq_true rfl, Nat.le_of_ble_eq_true rfl⟩), (hts _ (kx_m kw_478)), (hts _ (kx_m kw_479))⟩ (kx_preV (ci := 4) (q0 := 0) hK hN (hP.sub [1, 8, 9, 10] kt_11_1_8_9_10) (hD.sub [1, 8, 9, 10] (by decide) ks_11_1_8_9_10) rfl kg_4_0) rfl rfl hl.1 rfl (lv_room (Nat.le_of_ble_eq_true rfl)) dd_K_glue_34 ⟨(by show (kg_c ln (cn + 1) 9) + 0 ≤ (kg_c ln (cn + 1) 9); first | exact Nat.le_refl _ | omega), (by show (kg_s ln (cn + 1) 4096 9 + kg_c ln (cn + 1) 4) + 0 ≤ (kg_s ln (cn + 1) 4096 9 + kg_c ln (cn + 1) 4); first | exact Nat.le_refl _ | omega)⟩) hP hD hS hA [1, 8, 9, 10] [0, 2, 3, 4, 5, 6, 7] ks_11_1_8_9_10 ks_11_0_2_3_4_5_6_7 (by decide) (by decide) (fun u34 H locs hw34 hP hD hS => ?_)
    refine kx_bud (cells := kg_c ln (cn + 1) 9) (slots := kg_s ln (cn + 1) 4096 9 + kg_c ln (cn + 1) 4) ?_ (by omega) (by omega)
    obtain ⟨s2_34, h2_34, j2_34⟩ := u34
    have hP : va_P D vwCl [(x, .inr (1, [.ref g, .ref t, .ref h, .ref o])), (i12_19, .inl (cI, ln2_19, .inl ik2_19)), (i22_19, .inl (cI, ln2_19, .inl ic2_19)), (i32_19, .inl (cI, ln2_19, .inl ia2_19)), (i42_19, .inl (cI, ln2_19, .inl ib2_19)), (i52_19, .inl (cI, ln2_19, .inl if_2_19)), (i62_19, .inl (cJ, (ln2_19 + 1), .inr (.inl iw2_19))), (t, .inr (4, [.int (nI (cn + 1)), .ref i12_19, .ref i22_19, .ref i32_19, .ref i42_19, .ref i52_19, .ref i62_19, .ref i72_19, .ref i82_19, .ref i92_19])), (i72_19, .inl (cJ, (ln2_19 + 1), .inr (.inl s2_34))), (i82_19, .inl (cJ, (ln2_19 + 1), .inr (.inl h2_34))), (i92_19, .inl (cJ, (ln2_19 + 1), .inr (.inl j2_34)))] H := hP
    have hD : va_D A [(x, .inr (1, [.ref g, .ref t, .ref h, .ref o])), (i12_19, .inl (cI, ln2_19, .inl ik2_19)), (i22_19, .inl (cI, ln2_19, .inl ic2_19)), (i32_19, .inl (cI, ln2_19, .inl ia2_19)), (i42_19, .inl (cI, ln2_19, .inl ib2_19)), (i52_19, .inl (cI, ln2_19, .inl if_2_19)), (i62_19, .inl (cJ, (ln2_19 + 1), .inr (.inl iw2_19))), (t, .inr (4, [.int (nI (cn + 1)), .ref i12_19, .ref i22_19, .ref i32_19, .ref i42_19, .ref i52_19, .ref i62_19, .ref i72_19, .ref i82_19, .ref i92_19])), (i72_19, .inl (cJ, (ln2_19 + 1), .inr (.inl s2_34))), (i82_19, .inl (cJ, (ln2_19 + 1), .inr (.inl h2_34))), (i92_19, .inl (cJ, (ln2_19 + 1), .inr (.inl j2_34)))] := hD
    have hP : va_P D vwCl [(x, .inr (1, [.ref g, .ref t, .ref h, .ref o])), (t, .inr (4, [.int (nI (cn + 1)), .ref i12_19, .ref i22_19, .ref i32_19, .ref i42_19, .ref i52_19, .ref i62_19, .ref i72_19, .ref i82_19, .ref i92_19])), (i12_19, .inl (cI, ln2_19, .inl ik2_19)), (i22_19, .inl (cI, ln2_19, .inl ic2_19)), (i32_19, .inl (cI, ln2_19, .inl ia2_19)), (i42_19, .inl (cI, ln2_19, .inl ib2_19)), (i52_19, .inl (cI, ln2_19, .inl if_2_19)), (i62_19, .inl (cJ, (ln2_19 + 1), .inr (.inl iw2_19))), (i72_19, .inl (cJ, (ln2_19 + 1), .inr (.inl s2_34))), (i82_19, .inl (cJ, (ln2_19 + 1), .inr (.inl h2_34))), (i92_19, .inl (cJ, (ln2_19 + 1), .inr (.inl j2_34)))] H := hP.sub [0, 7, 1, 2, 3, 4, 5, 6, 8, 9, 10] kt_11_0_7_1_2_3_4_5_6_8_9_10
    have hD : va_D A [(x, .inr (1, [.ref g, .ref t, .ref h, .ref o])), (t, .inr (4, [.int (nI (cn + 1)), .ref i12_19, .ref i22_19, .ref i32_19, .ref i42_19, .ref i52_19, .ref i62_19, .ref i72_19, .ref i82_19, .ref i92_19])), (i12_19, .inl (cI, ln2_19, .inl ik2_19)), (i22_19, .inl (cI, ln2_19, .inl ic2_19)), (i32_19, .inl (cI, ln2_19, .inl ia2_19)), (i42_19, .inl (cI, ln2_19, .inl ib2_19)), (i52_19, .inl (cI, ln2_19, .inl if_2_19)), (i62_19, .inl (cJ, (ln2_19 + 1), .inr (.inl iw2_19))), (i72_19, .inl (cJ, (ln2_19 + 1), .inr (.inl s2_34))), (i82_19, .inl (cJ, (ln2_19 + 1), .inr (.inl h2_34))), (i92_19, .inl (cJ, (ln2_19 + 1), .inr (.inl j2_34)))] := hD.sub [0, 7, 1, 2, 3, 4, 5, 6, 8, 9, 10] (by decide) ks_11_0_7_1_2_3_4_5_6_8_9_10
    have hw34 : s2_34 = (if or2 = 0 then vp_updL is_2_19 (cn + 1) (is_2_19 (cn + 1) + st2.toInt64) else is_2_19) ∧ h2_34 = (if or2 = 0 then ih2_19 else vp_updL ih2_19 (cn + 1) (ih2_19 (cn + 1) + st2.toInt64)) ∧ j2_34 = vp_updL ij2_19 (cn + 1) (ij2_19 (cn + 1) + sh2.toInt64) := hw34
    refine lv_iload hx hb dd_K_glue_37 (lv_at hl 0 rfl) ?_
    rw [hQ]
    refine kx_widen (k := kg_c ln (cn + 1) 9) (n := kg_s ln (cn + 1) 4096 9 + kg_c ln (cn + 1) 4) (Nat.le_refl _) (Nat.le_refl _) ?_
    exact kx_iret hx hb hr hlocks hK hN hS dd_K_glue_39 (i12_19, i22_19, i32_19, i42_19, i52_19, i62_19, i72_19, i82_19, i92_19, ln2_19, ik2_19, ic2_19, ia2_19, ib2_19, if_2_19, iw2_19, s2_34, h2_34, j2_34) hP hD (kf_glue hw19 hw34)
  · skip
    have c8 : ¬ (pm_gl w st2 or2 sh2) := kb_0.mp c8
    exact absurd hy c8


set_option maxHeartbeats 4000000 in
set_option maxRecDepth 100000 in
theorem ct_K_glue_n (l : Launch) (D : va_G) (cI cJ cZ : ClassId) (sz : Nat) (x : Nat) (g : Nat) (t : Nat) (h : Nat) (o : Nat) (cn : Nat) (i1 : Nat) (i2 : Nat) (i3 : Nat) (i4 : Nat) (i5 : Nat) (i6 : Nat) (i7 : Nat) (i8 : Nat) (i9 : Nat) (ln : Nat) (ik : Nat → Int32) (ic : Nat → Int32) (ia : Nat → Int32) (ib : Nat → Int32) (if_ : Nat → Int32) (iw : Nat → Int64) (is_ : Nat → Int64) (ih : Nat → Int64) (ij : Nat → Int64) (w : Int32) (st2 : Int32) (or2 : Int32) (sh2 : Int32) (hno : ¬ (pm_gl w st2 or2 sh2 ∧ cn < 4096)) (h2 : cn < 2 ^ 20) (h3 : cn ≤ ln) (h4 : ln < 2 ^ 30) : kx_Mi l yy_K_glue ww_K_glue ({ frames := 2, cells := 0, slots := 0, locals := 43 }) D vwCl (kx_ty cI cJ cZ) [.ref x, .int w, .int st2, .int or2, .int sh2] [(x, .inr (1, [.ref g, .ref t, .ref h, .ref o])), (t, .inr (4, [.int (nI cn), .ref i1, .ref i2, .ref i3, .ref i4, .ref i5, .ref i6, .ref i7, .ref i8, .ref i9])), (i1, .inl (cI, ln, .inl ik)), (i2, .inl (cI, ln, .inl ic)), (i3, .inl (cI, ln, .inl ia)), (i4, .inl (cI, ln, .inl ib)), (i5, .inl (cI, ln, .inl if_)), (i6, .inl (cJ, (ln + 1), .inr (.inl iw))), (i7, .inl (cJ, (ln + 1), .inr (.inl is_))), (i8, .inl (cJ, (ln + 1), .inr (.inl ih))), (i9, .inl (cJ, (ln + 1), .inr (.inl ij)))] sz (fun (r : Int32) (u : Unit) => r = (-1)) (fun (u : Unit) => [(x, .inr (1, [.ref g, .ref t, .ref h, .ref o])), (t, .inr (4, [.int (nI cn), .ref i1, .ref i2, .ref i3, .ref i4, .ref i5, .ref i6, .ref i7, .ref i8, .ref i9])), (i1, .inl (cI, ln, .inl ik)), (i2, .inl (cI, ln, .inl ic)), (i3, .inl (cI, ln, .inl ia)), (i4, .inl (cI, ln, .inl ib)), (i5, .inl (cI, ln, .inl if_)), (i6, .inl (cJ, (ln + 1), .inr (.inl iw))), (i7, .inl (cJ, (ln + 1), .inr (.inl is_))), (i8, .inl (cJ, (ln + 1), .inr (.inl ih))), (i9, .inl (cJ, (ln + 1), .inr (.inl ij)))]) 0 0 := by
  refine kx_starti (by decide) rfl (Nat.le_of_ble_eq_true rfl) ?_
  intro p e s m below meth c A ls hx hb hr hml hts hown hlocks hin hP hK hN hD hA hS hl
  have hl : lv_has ls 6 [(0, .ref x), (1, .int w), (2, .int st2), (3, .int or2), (4, .int sh2)] := hl
  have hown : s.vm.findClass rr_K = some m.cls := hown
  have lk0 := hts _ (kx_m kw_387)
  have hin1 : ∀ w ∈ u_ws rr_K tt_K 4, w ∈ ww_K_glue := fun w h => kx_m (kf_K w h)
  obtain ⟨H, hH⟩ : ∃ H, H = s.heap := ⟨_, rfl⟩
  obtain ⟨locs, hlocs⟩ : ∃ z : List Loc, z = [] := ⟨_, rfl⟩
  have hP : va_P D vwCl [(x, .inr (1, [.ref g, .ref t, .ref h, .ref o])), (t, .inr (4, [.int (nI cn), .ref i1, .ref i2, .ref i3, .ref i4, .ref i5, .ref i6, .ref i7, .ref i8, .ref i9])), (i1, .inl (cI, ln, .inl ik)), (i2, .inl (cI, ln, .inl ic)), (i3, .inl (cI, ln, .inl ia)), (i4, .inl (cI, ln, .inl ib)), (i5, .inl (cI, ln, .inl if_)), (i6, .inl (cJ, (ln + 1), .inr (.inl iw))), (i7, .inl (cJ, (ln + 1), .inr (.inl is_))), (i8, .inl (cJ, (ln + 1), .inr (.inl ih))), (i9, .inl (cJ, (ln + 1), .inr (.inl ij)))] H := by rw [hH]; exact hP
  have hS : va_S A s.heap H locs := by rw [hH, hlocs]; exact hS
  refine kx_gen hH hlocs ?_
  clear hH hlocs
  refine kx_nameQ (fun Q hQ => ?_)
  refine lv_iload_n hx hb dd_K_glue_0 rfl (lv_at hl 1 rfl) ?_
  refine lv_iload_n hx hb dd_K_glue_1 rfl (lv_at hl 2 rfl) ?_
  refine lv_iload_n hx hb dd_K_glue_2 rfl (lv_at hl 3 rfl) ?_
  refine lv_iload hx hb dd_K_glue_3 (lv_at hl 4 rfl) ?_
  refine kx_calli (wr := [(x, .inr (1, [.ref g, .ref t, .ref h, .ref o])), (t, .inr (4, [.int (nI cn), .ref i1, .ref i2, .ref i3, .ref i4, .ref i5, .ref i6, .ref i7, .ref i8, .ref i9])), (i1, .inl (cI, ln, .inl ik)), (i2, .inl (cI, ln, .inl ic)), (i3, .inl (cI, ln, .inl ia)), (i4, .inl (cI, ln, .inl ib)), (i5, .inl (cI, ln, .inl if_)), (i6, .inl (cJ, (ln + 1), .inr (.inl iw))), (i7, .inl (cJ, (ln + 1), .inr (.inl is_))), (i8, .inl (cJ, (ln + 1), .inr (.inl ih))), (i9, .inl (cJ, (ln + 1), .inr (.inl ij)))]) (va_runS (As := [.int w, .int st2, .int or2, .int sh2]) (rest := []) ⟨hx, hb, hml, hown, hts⟩ (ct_K_isGlue l D cI cJ cZ H.size w st2 or2 sh2) ⟨(callB_of 4 hts (kx_good kw_446) rfl rfl rfl (hts _ (kx_m kw_44)) (hts _ (kx_m kw_444)) (by decide +kernel) ⟨Nat.le_of_ble_eq_true rfl, Nat.le_of_ble_eq_true rfl⟩), (hts _ (kx_m kw_445))⟩ (kx_preS hK hN (hP.sub [] kt_11_) (hD.sub [] (by decide) ks_11_)) rfl rfl hl.1 rfl (lv_room (Nat.le_of_ble_eq_true rfl)) dd_K_glue_5 ⟨Nat.le_of_ble_eq_true rfl, Nat.le_of_ble_eq_true rfl⟩) hP hD hS hA [] [0, 1, 2, 3, 4, 5, 6, 7, 8, 9, 10] ks_11_ ks_11_0_1_2_3_4_5_6_7_8_9_10 (by decide) (by decide) (fun r5 u5 H locs hw5 hP hD hS => ?_)
  have hP : va_P D vwCl [(x, .inr (1, [.ref g, .ref t, .ref h, .ref o])), (t, .inr (4, [.int (nI cn), .ref i1, .ref i2, .ref i3, .ref i4, .ref i5, .ref i6, .ref i7, .ref i8, .ref i9])), (i1, .inl (cI, ln, .inl ik)), (i2, .inl (cI, ln, .inl ic)), (i3, .inl (cI, ln, .inl ia)), (i4, .inl (cI, ln, .inl ib)), (i5, .inl (cI, ln, .inl if_)), (i6, .inl (cJ, (ln + 1), .inr (.inl iw))), (i7, .inl (cJ, (ln + 1), .inr (.inl is_))), (i8, .inl (cJ, (ln + 1), .inr (.inl ih))), (i9, .inl (cJ, (ln + 1), .inr (.inl ij)))] H := hP
  have hD : va_D A [(x, .inr (1, [.ref g, .ref t, .ref h, .ref o])), (t, .inr (4, [.int (nI cn), .ref i1, .ref i2, .ref i3, .ref i4, .ref i5, .ref i6, .ref i7, .ref i8, .ref i9])), (i1, .inl (cI, ln, .inl ik)), (i2, .inl (cI, ln, .inl ic)), (i3, .inl (cI, ln, .inl ia)), (i4, .inl (cI, ln, .inl ib)), (i5, .inl (cI, ln, .inl if_)), (i6, .inl (cJ, (ln + 1), .inr (.inl iw))), (i7, .inl (cJ, (ln + 1), .inr (.inl is_))), (i8, .inl (cJ, (ln + 1), .inr (.inl ih))), (i9, .inl (cJ, (ln + 1), .inr (.inl ij)))] := hD
  have hw5 : r5 = kb_p (pm_gl w st2 or2 sh2) := hw5
  subst hw5
  refine lv_if_ne (tgt := 13) hx hb dd_K_glue_8 (by decide) (fun c8 => ?_) (fun c8 => ?_)
  · skip
    have c8 : pm_gl w st2 or2 sh2 := kb_1.mp c8
    refine lv_aload_n hx hb dd_K_glue_13 rfl (lv_at hl 0 rfl) ?_
    refine va_get (D := D) (ci := 1) (v := .ref t) (C := rr_K) (T := tt_K) (N := 4) hx hb hts hin1 hown hK hP 0 kg_11_0 rfl 1 (by decide) lk0 (fun _ h9 => h9) rfl dd_K_glue_14 ?_
    refine lv_iconst (v := nI 1) hx hb dd_K_glue_17 (by decide) ?_
    refine lv_iload_n hx hb dd_K_glue_18 rfl (lv_at hl 1 rfl) ?_
    refine kx_calli (wr := [(x, .inr (1, [.ref g, .ref t, .ref h, .ref o]))]) (va_runV (C := rr_It) (As := [.int (nI 1), .int w]) (rest := []) ⟨hx, hb, hml, hown, hts⟩ (ct_It_append_f l D cI cJ cZ H.size t cn i1 i2 i3 i4 i5 i6 i7 i8 i9 ln ik ic ia ib if_ iw is_ ih ij (nI 1) w (Nat.le_of_not_lt (fun q => hno ⟨c8, q⟩)) (by omega)) ⟨(callB_of 2 hts (kx_good kw_458) rfl rfl rfl (hts _ (kx_m kw_47)) (hts _ (kx_m kw_455)) (by decide +kernel) ⟨Nat.le_of_ble_eq_true rfl, Nat.le_of_ble_eq_true rfl⟩), (hts _ (kx_m kw_456)), (hts _ (kx_m kw_457))⟩ (kx_preV (ci := 4) (q0 := 0) hK hN (hP.sub [1, 2, 3, 4, 5, 6, 7, 8, 9, 10] kt_11_1_2_3_4_5_6_7_8_9_10) (hD.sub [1, 2, 3, 4, 5, 6, 7, 8, 9, 10] (by decide) ks_11_1_2_3_4_5_6_7_8_9_10) rfl kg_10_0) rfl rfl hl.1 rfl (lv_room (Nat.le_of_ble_eq_true rfl)) dd_K_glue_19 ⟨Nat.le_of_ble_eq_true rfl, Nat.le_of_ble_eq_true rfl⟩) hP hD hS hA [1, 2, 3, 4, 5, 6, 7, 8, 9, 10] [0] ks_11_1_2_3_4_5_6_7_8_9_10 ks_11_0 (by decide) (by decide) (fun r19 u19 H locs hw19 hP hD hS => ?_)
    have hP : va_P D vwCl [(x, .inr (1, [.ref g, .ref t, .ref h, .ref o])), (t, .inr (4, [.int (nI cn), .ref i1, .ref i2, .ref i3, .ref i4, .ref i5, .ref i6, .ref i7, .ref i8, .ref i9])), (i1, .inl (cI, ln, .inl ik)), (i2, .inl (cI, ln, .inl ic)), (i3, .inl (cI, ln, .inl ia)), (i4, .inl (cI, ln, .inl ib)), (i5, .inl (cI, ln, .inl if_)), (i6, .inl (cJ, (ln + 1), .inr (.inl iw))), (i7, .inl (cJ, (ln + 1), .inr (.inl is_))), (i8, .inl (cJ, (ln + 1), .inr (.inl ih))), (i9, .inl (cJ, (ln + 1), .inr (.inl ij)))] H := hP
    have hD : va_D A [(x, .inr (1, [.ref g, .ref t, .ref h, .ref o])), (t, .inr (4, [.int (nI cn), .ref i1, .ref i2, .ref i3, .ref i4, .ref i5, .ref i6, .ref i7, .ref i8, .ref i9])), (i1, .inl (cI, ln, .inl ik)), (i2, .inl (cI, ln, .inl ic)), (i3, .inl (cI, ln, .inl ia)), (i4, .inl (cI, ln, .inl ib)), (i5, .inl (cI, ln, .inl if_)), (i6, .inl (cJ, (ln + 1), .inr (.inl iw))), (i7, .inl (cJ, (ln + 1), .inr (.inl is_))), (i8, .inl (cJ, (ln + 1), .inr (.inl ih))), (i9, .inl (cJ, (ln + 1), .inr (.inl ij)))] := hD
    have hw19 : r19 = (-1) := hw19
    subst hw19
    refine lv_istore (lv' := [(5, .int (-1)), (0, .ref x), (1, .int w), (2, .int st2), (3, .int or2), (4, .int sh2)]) hx hb dd_K_glue_22 hl (by decide) rfl (fun ls hl => ?_)
    refine lv_aload_n hx hb dd_K_glue_24 rfl (lv_at hl 1 rfl) ?_
    refine va_get (D := D) (ci := 1) (v := .ref t) (C := rr_K) (T := tt_K) (N := 4) hx hb hts hin1 hown hK hP 0 kg_11_0 rfl 1 (by decide) lk0 (fun _ h9 => h9) rfl dd_K_glue_25 ?_
    refine lv_iload hx hb dd_K_glue_28 (lv_at hl 0 rfl) ?_
    refine lv_iload_n hx hb dd_K_glue_30 rfl (lv_at hl 3 rfl) ?_
    refine lv_iload_n hx hb dd_K_glue_31 rfl (lv_at hl 4 rfl) ?_
    refine lv_iload hx hb dd_K_glue_32 (lv_at hl 5 rfl) ?_
    refine kx_callv (wr := [(x, .inr (1, [.ref g, .ref t, .ref h, .ref o])), (i1, .inl (cI, ln, .inl ik)), (i2, .inl (cI, ln, .inl ic)), (i3, .inl (cI, ln, .inl ia)), (i4, .inl (cI, ln, .inl ib)), (i5, .inl (cI, ln, .inl if_)), (i6, .inl (cJ, (ln + 1), .inr (.inl iw)))]) (va_runV (C := rr_It) (As := [.int (-1), .int st2, .int or2, .int sh2]) (rest := []) ⟨hx, hb, hml, hown, hts⟩ (ct_It_addSpring_n l D cI cJ cZ H.size t cn i1 i2 i3 i4 i5 i6 i7 i8 i9 ln is_ ih ij st2 or2 sh2 (by omega) (by omega)) ⟨(callB_of 4 hts (kx_good kw_480) rfl rfl rfl (hts _ (kx_m kw_47)) (hts _ (kx_m kw_477)) (by decide +kernel) ⟨Nat.le_of_ble_eq_true rfl, Nat.le_of_ble_eq_true rfl⟩), (hts _ (kx_m kw_478)), (hts _ (kx_m kw_479))⟩ (kx_preV (ci := 4) (q0 := 0) hK hN (hP.sub [1, 8, 9, 10] kt_11_1_8_9_10) (hD.sub [1, 8, 9, 10] (by decide) ks_11_1_8_9_10) rfl kg_4_0) rfl rfl hl.1 rfl (lv_room (Nat.le_of_ble_eq_true rfl)) dd_K_glue_34 ⟨Nat.le_of_ble_eq_true rfl, Nat.le_of_ble_eq_true rfl⟩) hP hD hS hA [1, 8, 9, 10] [0, 2, 3, 4, 5, 6, 7] ks_11_1_8_9_10 ks_11_0_2_3_4_5_6_7 (by decide) (by decide) (fun u34 H locs hw34 hP hD hS => ?_)
    have hP : va_P D vwCl [(x, .inr (1, [.ref g, .ref t, .ref h, .ref o])), (i1, .inl (cI, ln, .inl ik)), (i2, .inl (cI, ln, .inl ic)), (i3, .inl (cI, ln, .inl ia)), (i4, .inl (cI, ln, .inl ib)), (i5, .inl (cI, ln, .inl if_)), (i6, .inl (cJ, (ln + 1), .inr (.inl iw))), (t, .inr (4, [.int (nI cn), .ref i1, .ref i2, .ref i3, .ref i4, .ref i5, .ref i6, .ref i7, .ref i8, .ref i9])), (i7, .inl (cJ, (ln + 1), .inr (.inl is_))), (i8, .inl (cJ, (ln + 1), .inr (.inl ih))), (i9, .inl (cJ, (ln + 1), .inr (.inl ij)))] H := hP
    have hD : va_D A [(x, .inr (1, [.ref g, .ref t, .ref h, .ref o])), (i1, .inl (cI, ln, .inl ik)), (i2, .inl (cI, ln, .inl ic)), (i3, .inl (cI, ln, .inl ia)), (i4, .inl (cI, ln, .inl ib)), (i5, .inl (cI, ln, .inl if_)), (i6, .inl (cJ, (ln + 1), .inr (.inl iw))), (t, .inr (4, [.int (nI cn), .ref i1, .ref i2, .ref i3, .ref i4, .ref i5, .ref i6, .ref i7, .ref i8, .ref i9])), (i7, .inl (cJ, (ln + 1), .inr (.inl is_))), (i8, .inl (cJ, (ln + 1), .inr (.inl ih))), (i9, .inl (cJ, (ln + 1), .inr (.inl ij)))] := hD
    have hP : va_P D vwCl [(x, .inr (1, [.ref g, .ref t, .ref h, .ref o])), (t, .inr (4, [.int (nI cn), .ref i1, .ref i2, .ref i3, .ref i4, .ref i5, .ref i6, .ref i7, .ref i8, .ref i9])), (i1, .inl (cI, ln, .inl ik)), (i2, .inl (cI, ln, .inl ic)), (i3, .inl (cI, ln, .inl ia)), (i4, .inl (cI, ln, .inl ib)), (i5, .inl (cI, ln, .inl if_)), (i6, .inl (cJ, (ln + 1), .inr (.inl iw))), (i7, .inl (cJ, (ln + 1), .inr (.inl is_))), (i8, .inl (cJ, (ln + 1), .inr (.inl ih))), (i9, .inl (cJ, (ln + 1), .inr (.inl ij)))] H := hP.sub [0, 7, 1, 2, 3, 4, 5, 6, 8, 9, 10] kt_11_0_7_1_2_3_4_5_6_8_9_10
    have hD : va_D A [(x, .inr (1, [.ref g, .ref t, .ref h, .ref o])), (t, .inr (4, [.int (nI cn), .ref i1, .ref i2, .ref i3, .ref i4, .ref i5, .ref i6, .ref i7, .ref i8, .ref i9])), (i1, .inl (cI, ln, .inl ik)), (i2, .inl (cI, ln, .inl ic)), (i3, .inl (cI, ln, .inl ia)), (i4, .inl (cI, ln, .inl ib)), (i5, .inl (cI, ln, .inl if_)), (i6, .inl (cJ, (ln + 1), .inr (.inl iw))), (i7, .inl (cJ, (ln + 1), .inr (.inl is_))), (i8, .inl (cJ, (ln + 1), .inr (.inl ih))), (i9, .inl (cJ, (ln + 1), .inr (.inl ij)))] := hD.sub [0, 7, 1, 2, 3, 4, 5, 6, 8, 9, 10] (by decide) ks_11_0_7_1_2_3_4_5_6_8_9_10
    refine lv_iload hx hb dd_K_glue_37 (lv_at hl 0 rfl) ?_
    rw [hQ]
    exact kx_iret hx hb hr hlocks hK hN hS dd_K_glue_39 () hP hD rfl
  · skip
    have c8 : ¬ (pm_gl w st2 or2 sh2) := kb_0.mp c8
    refine lv_iconst (v := (-1)) hx hb dd_K_glue_11 (by decide) ?_
    rw [hQ]
    exact kx_iret hx hb hr hlocks hK hN hS dd_K_glue_12 () hP hD rfl

theorem dd_K_penalty_0 : decode bb_K_penalty 0 = .ok (.aload_n 0, 1) := by decide +kernel
theorem dd_K_penalty_1 : decode bb_K_penalty 1 = .ok (.getfield 19, 3) := by decide +kernel
theorem dd_K_penalty_4 : decode bb_K_penalty 4 = .ok (.iconst 3, 1) := by decide +kernel
theorem dd_K_penalty_5 : decode bb_K_penalty 5 = .ok (.iconst 0, 1) := by decide +kernel
theorem dd_K_penalty_6 : decode bb_K_penalty 6 = .ok (.invokevirtual 73, 3) := by decide +kernel
theorem dd_K_penalty_9 : decode bb_K_penalty 9 = .ok (.istore_n 2, 1) := by decide +kernel
theorem dd_K_penalty_10 : decode bb_K_penalty 10 = .ok (.aload_n 0, 1) := by decide +kernel
theorem dd_K_penalty_11 : decode bb_K_penalty 11 = .ok (.getfield 19, 3) := by decide +kernel
theorem dd_K_penalty_14 : decode bb_K_penalty 14 = .ok (.iload_n 2, 1) := by decide +kernel
theorem dd_K_penalty_15 : decode bb_K_penalty 15 = .ok (.sipush (-10000), 3) := by decide +kernel
theorem dd_K_penalty_18 : decode bb_K_penalty 18 = .ok (.sipush (10000), 3) := by decide +kernel
theorem dd_K_penalty_21 : decode bb_K_penalty 21 = .ok (.iload_n 1, 1) := by decide +kernel
theorem dd_K_penalty_22 : decode bb_K_penalty 22 = .ok (.invokestatic 80, 3) := by decide +kernel
theorem dd_K_penalty_25 : decode bb_K_penalty 25 = .ok (.invokestatic 85, 3) := by decide +kernel
theorem dd_K_penalty_28 : decode bb_K_penalty 28 = .ok (.invokevirtual 88, 3) := by decide +kernel
theorem dd_K_penalty_31 : decode bb_K_penalty 31 = .ok (.iload_n 2, 1) := by decide +kernel
theorem dd_K_penalty_32 : decode bb_K_penalty 32 = .ok (.ireturn, 1) := by decide +kernel

set_option maxHeartbeats 4000000 in
set_option maxRecDepth 100000 in
theorem ct_K_penalty (l : Launch) (D : va_G) (cI cJ cZ : ClassId) (sz : Nat) (x : Nat) (g : Nat) (t : Nat) (h : Nat) (o : Nat) (cn : Nat) (i1 : Nat) (i2 : Nat) (i3 : Nat) (i4 : Nat) (i5 : Nat) (i6 : Nat) (i7 : Nat) (i8 : Nat) (i9 : Nat) (ln : Nat) (ik : Nat → Int32) (ic : Nat → Int32) (ia : Nat → Int32) (ib : Nat → Int32) (if_ : Nat → Int32) (iw : Nat → Int64) (is_ : Nat → Int64) (ih : Nat → Int64) (ij : Nat → Int64) (p9 : Int32) (h1 : cn < 4096) (h2 : cn ≤ ln) (h3 : ln ≤ 4096) : kx_Mi l yy_K_penalty ww_K_penalty ({ frames := 4, cells := kg_c ln (cn + 1) 9, slots := kg_s ln (cn + 1) 4096 9 + kg_c ln (cn + 1) 4, locals := 99 }) D vwCl (kx_ty cI cJ cZ) [.ref x, .int p9] [(x, .inr (1, [.ref g, .ref t, .ref h, .ref o])), (t, .inr (4, [.int (nI cn), .ref i1, .ref i2, .ref i3, .ref i4, .ref i5, .ref i6, .ref i7, .ref i8, .ref i9])), (i1, .inl (cI, ln, .inl ik)), (i2, .inl (cI, ln, .inl ic)), (i3, .inl (cI, ln, .inl ia)), (i4, .inl (cI, ln, .inl ib)), (i5, .inl (cI, ln, .inl if_)), (i6, .inl (cJ, (ln + 1), .inr (.inl iw))), (i7, .inl (cJ, (ln + 1), .inr (.inl is_))), (i8, .inl (cJ, (ln + 1), .inr (.inl ih))), (i9, .inl (cJ, (ln + 1), .inr (.inl ij)))] sz (fun (r : Int32) (u : Nat × Nat × Nat × Nat × Nat × Nat × Nat × Nat × Nat × Nat × (Nat → Int32) × (Nat → Int32) × (Nat → Int32) × (Nat → Int32) × (Nat → Int32) × (Nat → Int64) × (Nat → Int64) × (Nat → Int64) × (Nat → Int64)) => (r = nI cn) ∧ (u.2.2.2.2.2.2.2.2.2.1 = kg_n ln (cn + 1) 4096 ∧ (∀ j, j < cn → u.2.2.2.2.2.2.2.2.2.2.1 j = ik j ∧ u.2.2.2.2.2.2.2.2.2.2.2.1 j = ic j ∧ u.2.2.2.2.2.2.2.2.2.2.2.2.1 j = ia j ∧ u.2.2.2.2.2.2.2.2.2.2.2.2.2.1 j = ib j ∧ u.2.2.2.2.2.2.2.2.2.2.2.2.2.2.1 j = if_ j) ∧ u.2.2.2.2.2.2.2.2.2.2.1 cn = nI 3 ∧ (∀ j, j < cn + 1 → u.2.2.2.2.2.2.2.2.2.2.2.2.2.2.2.1 j = iw j ∧ u.2.2.2.2.2.2.2.2.2.2.2.2.2.2.2.2.1 j = is_ j ∧ u.2.2.2.2.2.2.2.2.2.2.2.2.2.2.2.2.2.1 j = ih j ∧ u.2.2.2.2.2.2.2.2.2.2.2.2.2.2.2.2.2.2 j = ij j) ∧ u.2.2.2.2.2.2.2.2.2.2.2.2.2.2.2.1 (cn + 1) = iw cn + (nI 0).toInt64 ∧ u.2.2.2.2.2.2.2.2.2.2.2.2.2.2.2.2.1 (cn + 1) = is_ cn ∧ u.2.2.2.2.2.2.2.2.2.2.2.2.2.2.2.2.2.1 (cn + 1) = ih cn ∧ u.2.2.2.2.2.2.2.2.2.2.2.2.2.2.2.2.2.2 (cn + 1) = ij cn ∧ u.2.2.2.2.2.2.2.2.2.2.2.1 cn = pm_pp p9)) (fun (u : Nat × Nat × Nat × Nat × Nat × Nat × Nat × Nat × Nat × Nat × (Nat → Int32) × (Nat → Int32) × (Nat → Int32) × (Nat → Int32) × (Nat → Int32) × (Nat → Int64) × (Nat → Int64) × (Nat → Int64) × (Nat → Int64)) => [(x, .inr (1, [.ref g, .ref t, .ref h, .ref o])), (t, .inr (4, [.int (nI (cn + 1)), .ref u.1, .ref u.2.1, .ref u.2.2.1, .ref u.2.2.2.1, .ref u.2.2.2.2.1, .ref u.2.2.2.2.2.1, .ref u.2.2.2.2.2.2.1, .ref u.2.2.2.2.2.2.2.1, .ref u.2.2.2.2.2.2.2.2.1])), (u.1, .inl (cI, u.2.2.2.2.2.2.2.2.2.1, .inl u.2.2.2.2.2.2.2.2.2.2.1)), (u.2.1, .inl (cI, u.2.2.2.2.2.2.2.2.2.1, .inl u.2.2.2.2.2.2.2.2.2.2.2.1)), (u.2.2.1, .inl (cI, u.2.2.2.2.2.2.2.2.2.1, .inl u.2.2.2.2.2.2.2.2.2.2.2.2.1)), (u.2.2.2.1, .inl (cI, u.2.2.2.2.2.2.2.2.2.1, .inl u.2.2.2.2.2.2.2.2.2.2.2.2.2.1)), (u.2.2.2.2.1, .inl (cI, u.2.2.2.2.2.2.2.2.2.1, .inl u.2.2.2.2.2.2.2.2.2.2.2.2.2.2.1)), (u.2.2.2.2.2.1, .inl (cJ, (u.2.2.2.2.2.2.2.2.2.1 + 1), .inr (.inl u.2.2.2.2.2.2.2.2.2.2.2.2.2.2.2.1))), (u.2.2.2.2.2.2.1, .inl (cJ, (u.2.2.2.2.2.2.2.2.2.1 + 1), .inr (.inl u.2.2.2.2.2.2.2.2.2.2.2.2.2.2.2.2.1))), (u.2.2.2.2.2.2.2.1, .inl (cJ, (u.2.2.2.2.2.2.2.2.2.1 + 1), .inr (.inl u.2.2.2.2.2.2.2.2.2.2.2.2.2.2.2.2.2.1))), (u.2.2.2.2.2.2.2.2.1, .inl (cJ, (u.2.2.2.2.2.2.2.2.2.1 + 1), .inr (.inl u.2.2.2.2.2.2.2.2.2.2.2.2.2.2.2.2.2.2)))]) (kg_c ln (cn + 1) 9) (kg_s ln (cn + 1) 4096 9 + kg_c ln (cn + 1) 4) := by
  refine kx_starti (by decide) rfl (Nat.le_of_ble_eq_true rfl) ?_
  intro p e s m below meth c A ls hx hb hr hml hts hown hlocks hin hP hK hN hD hA hS hl
  have hl : lv_has ls 3 [(0, .ref x), (1, .int p9)] := hl
  have hown : s.vm.findClass rr_K = some m.cls := hown
  have lk0 := hts _ (kx_m kw_387)
  have hin1 : ∀ w ∈ u_ws rr_K tt_K 4, w ∈ ww_K_penalty := fun w h => kx_m (kf_K w h)
  obtain ⟨H, hH⟩ : ∃ H, H = s.heap := ⟨_, rfl⟩
  obtain ⟨locs, hlocs⟩ : ∃ z : List Loc, z = [] := ⟨_, rfl⟩
  have hP : va_P D vwCl [(x, .inr (1, [.ref g, .ref t, .ref h, .ref o])), (t, .inr (4, [.int (nI cn), .ref i1, .ref i2, .ref i3, .ref i4, .ref i5, .ref i6, .ref i7, .ref i8, .ref i9])), (i1, .inl (cI, ln, .inl ik)), (i2, .inl (cI, ln, .inl ic)), (i3, .inl (cI, ln, .inl ia)), (i4, .inl (cI, ln, .inl ib)), (i5, .inl (cI, ln, .inl if_)), (i6, .inl (cJ, (ln + 1), .inr (.inl iw))), (i7, .inl (cJ, (ln + 1), .inr (.inl is_))), (i8, .inl (cJ, (ln + 1), .inr (.inl ih))), (i9, .inl (cJ, (ln + 1), .inr (.inl ij)))] H := by rw [hH]; exact hP
  have hS : va_S A s.heap H locs := by rw [hH, hlocs]; exact hS
  refine kx_gen hH hlocs ?_
  clear hH hlocs
  refine kx_nameQ (fun Q hQ => ?_)
  refine lv_aload_n hx hb dd_K_penalty_0 rfl (lv_at hl 0 rfl) ?_
  refine va_get (D := D) (ci := 1) (v := .ref t) (C := rr_K) (T := tt_K) (N := 4) hx hb hts hin1 hown hK hP 0 kg_11_0 rfl 1 (by decide) lk0 (fun _ h9 => h9) rfl dd_K_penalty_1 ?_
  refine lv_iconst (v := nI 3) hx hb dd_K_penalty_4 (by decide) ?_
  refine lv_iconst (v := nI 0) hx hb dd_K_penalty_5 (by decide) ?_
  refine kx_calli (wr := [(x, .inr (1, [.ref g, .ref t, .ref h, .ref o]))]) (va_runV (C := rr_It) (As := [.int (nI 3), .int (nI 0)]) (rest := []) ⟨hx, hb, hml, hown, hts⟩ (ct_It_append l D cI cJ cZ H.size t cn i1 i2 i3 i4 i5 i6 i7 i8 i9 ln ik ic ia ib if_ iw is_ ih ij (nI 3) (nI 0) (by omega) (by omega) (by omega)) ⟨(callB_of 2 hts (kx_good kw_458) rfl rfl rfl (hts _ (kx_m kw_47)) (hts _ (kx_m kw_455)) (by decide +kernel) ⟨Nat.le_of_ble_eq_true rfl, Nat.le_of_ble_eq_true rfl⟩), (hts _ (kx_m kw_456)), (hts _ (kx_m kw_457))⟩ (kx_preV (ci := 4) (q0 := 0) hK hN (hP.sub [1, 2, 3, 4, 5, 6, 7, 8, 9, 10] kt_11_1_2_3_4_5_6_7_8_9_10) (hD.sub [1, 2, 3, 4, 5, 6, 7, 8, 9, 10] (by decide) ks_11_1_2_3_4_5_6_7_8_9_10) rfl kg_10_0) rfl rfl hl.1 rfl (lv_room (Nat.le_of_ble_eq_true rfl)) dd_K_penalty_6 ⟨(by show 0 + (kg_c ln (cn + 1) 9) ≤ (kg_c ln (cn + 1) 9); first | exact Nat.le_refl _ | omega), (by show 0 + (kg_s ln (cn + 1) 4096 9 + kg_c ln (cn + 1) 4) ≤ (kg_s ln (cn + 1) 4096 9 + kg_c ln (cn + 1) 4); first | exact Nat.le_refl _ | omega)⟩) hP hD hS hA [1, 2, 3, 4, 5, 6, 7, 8, 9, 10] [0] ks_11_1_2_3_4_5_6_7_8_9_10 ks_11_0 (by decide) (by decide) (fun r6 u6 H locs hw6 hP hD hS => ?_)
  refine kx_bud (cells := kg_c ln (cn + 1) 9) (slots := kg_s ln (cn + 1) 4096 9 + kg_c ln (cn + 1) 4) ?_ (by omega) (by omega)
  obtain ⟨i12_6, i22_6, i32_6, i42_6, i52_6, i62_6, i72_6, i82_6, i92_6, ln2_6, ik2_6, ic2_6, ia2_6, ib2_6, if_2_6, iw2_6, is_2_6, ih2_6, ij2_6⟩ := u6
  have hP : va_P D vwCl [(x, .inr (1, [.ref g, .ref t, .ref h, .ref o])), (t, .inr (4, [.int (nI (cn + 1)), .ref i12_6, .ref i22_6, .ref i32_6, .ref i42_6, .ref i52_6, .ref i62_6, .ref i72_6, .ref i82_6, .ref i92_6])), (i12_6, .inl (cI, ln2_6, .inl ik2_6)), (i22_6, .inl (cI, ln2_6, .inl ic2_6)), (i32_6, .inl (cI, ln2_6, .inl ia2_6)), (i42_6, .inl (cI, ln2_6, .inl ib2_6)), (i52_6, .inl (cI, ln2_6, .inl if_2_6)), (i62_6, .inl (cJ, (ln2_6 + 1), .inr (.inl iw2_6))), (i72_6, .inl (cJ, (ln2_6 + 1), .inr (.inl is_2_6))), (i82_6, .inl (cJ, (ln2_6 + 1), .inr (.inl ih2_6))), (i92_6, .inl (cJ, (ln2_6 + 1), .inr (.inl ij2_6)))] H := hP
  have hD : va_D A [(x, .inr (1, [.ref g, .ref t, .ref h, .ref o])), (t, .inr (4, [.int (nI (cn + 1)), .ref i12_6, .ref i22_6, .ref i32_6, .ref i42_6, .ref i52_6, .ref i62_6, .ref i72_6, .ref i82_6, .ref i92_6])), (i12_6, .inl (cI, ln2_6, .inl ik2_6)), (i22_6, .inl (cI, ln2_6, .inl ic2_6)), (i32_6, .inl (cI, ln2_6, .inl ia2_6)), (i42_6, .inl (cI, ln2_6, .inl ib2_6)), (i52_6, .inl (cI, ln2_6, .inl if_2_6)), (i62_6, .inl (cJ, (ln2_6 + 1), .inr (.inl iw2_6))), (i72_6, .inl (cJ, (ln2_6 + 1), .inr (.inl is_2_6))), (i82_6, .inl (cJ, (ln2_6 + 1), .inr (.inl ih2_6))), (i92_6, .inl (cJ, (ln2_6 + 1), .inr (.inl ij2_6)))] := hD
  obtain ⟨rfl, hw6⟩ := hw6
  have hw6 : ln2_6 = kg_n ln (cn + 1) 4096 ∧ (∀ j, j < cn → ik2_6 j = ik j ∧ ic2_6 j = ic j ∧ ia2_6 j = ia j ∧ ib2_6 j = ib j ∧ if_2_6 j = if_ j) ∧ ik2_6 cn = (nI 3) ∧ (∀ j, j < cn + 1 → iw2_6 j = iw j ∧ is_2_6 j = is_ j ∧ ih2_6 j = ih j ∧ ij2_6 j = ij j) ∧ iw2_6 (cn + 1) = iw cn + (nI 0).toInt64 ∧ is_2_6 (cn + 1) = is_ cn ∧ ih2_6 (cn + 1) = ih cn ∧ ij2_6 (cn + 1) = ij cn := hw6
  have hlnP : cn + 1 ≤ ln2_6 ∧ ln2_6 < 2 ^ 20 := by have h9 := hw6.1; rw [h9]; unfold kg_n; split <;> omega
  refine lv_istore_n (lv' := [(2, .int (nI cn)), (0, .ref x), (1, .int p9)]) hx hb dd_K_penalty_9 rfl hl (by decide) rfl (fun ls hl => ?_)
  refine lv_aload_n hx hb dd_K_penalty_10 rfl (lv_at hl 1 rfl) ?_
  refine va_get (D := D) (ci := 1) (v := .ref t) (C := rr_K) (T := tt_K) (N := 4) hx hb hts hin1 hown hK hP 0 kg_11_0 rfl 1 (by decide) lk0 (fun _ h9 => h9) rfl dd_K_penalty_11 ?_
  refine lv_iload_n hx hb dd_K_penalty_14 rfl (lv_at hl 0 rfl) ?_
  refine lv_sipush (v := (-10000)) hx hb dd_K_penalty_15 (by decide) ?_
  refine lv_sipush (v := nI 10000) hx hb dd_K_penalty_18 (by decide) ?_
  refine lv_iload_n hx hb dd_K_penalty_21 rfl (lv_at hl 2 rfl) ?_
  refine va_mmin hx hb (by rw [hml]; exact hl.1.symm) hown (hts _ (kx_m kw_420)) (hts _ (kx_m kw_421)) (hts _ (kx_m kw_54)) (hts _ (kx_m kw_422)) (Nat.le_of_ble_eq_true rfl) (Nat.le_of_ble_eq_true rfl) (by show (kg_c ln (cn + 1) 9) ≤ (kg_c ln (cn + 1) 9); first | exact Nat.le_refl _ | omega) (by show (kg_s ln (cn + 1) 4096 9 + kg_c ln (cn + 1) 4) ≤ (kg_s ln (cn + 1) 4096 9 + kg_c ln (cn + 1) 4); first | exact Nat.le_refl _ | omega) dd_K_penalty_22 ?_
  refine va_mmax hx hb (by rw [hml]; exact hl.1.symm) hown (hts _ (kx_m kw_423)) (hts _ (kx_m kw_424)) (hts _ (kx_m kw_54)) (hts _ (kx_m kw_425)) (Nat.le_of_ble_eq_true rfl) (Nat.le_of_ble_eq_true rfl) (by show (kg_c ln (cn + 1) 9) ≤ (kg_c ln (cn + 1) 9); first | exact Nat.le_refl _ | omega) (by show (kg_s ln (cn + 1) 4096 9 + kg_c ln (cn + 1) 4) ≤ (kg_s ln (cn + 1) 4096 9 + kg_c ln (cn + 1) 4); first | exact Nat.le_refl _ | omega) dd_K_penalty_25 ?_
  refine kx_callv (wr := [(x, .inr (1, [.ref g, .ref t, .ref h, .ref o])), (i12_6, .inl (cI, ln2_6, .inl ik2_6)), (i32_6, .inl (cI, ln2_6, .inl ia2_6)), (i42_6, .inl (cI, ln2_6, .inl ib2_6)), (i52_6, .inl (cI, ln2_6, .inl if_2_6)), (i62_6, .inl (cJ, (ln2_6 + 1), .inr (.inl iw2_6))), (i72_6, .inl (cJ, (ln2_6 + 1), .inr (.inl is_2_6))), (i82_6, .inl (cJ, (ln2_6 + 1), .inr (.inl ih2_6))), (i92_6, .inl (cJ, (ln2_6 + 1), .inr (.inl ij2_6)))]) (va_runV (C := rr_It) (As := [.int (nI cn), .int (if (-10000) < (if p9 < (nI 10000) then p9 else nI 10000) then if p9 < (nI 10000) then p9 else nI 10000 else (-10000))]) (rest := []) ⟨hx, hb, hml, hown, hts⟩ (ct_It_setCost l D cI cJ cZ H.size t (cn + 1) i12_6 i22_6 i32_6 i42_6 i52_6 i62_6 i72_6 i82_6 i92_6 ln2_6 ic2_6 cn (if (-10000) < (if p9 < (nI 10000) then p9 else nI 10000) then if p9 < (nI 10000) then p9 else nI 10000 else (-10000)) (by omega) (by omega) (by omega)) ⟨(callB_of 2 hts (kx_good kw_492) rfl rfl rfl (hts _ (kx_m kw_47)) (hts _ (kx_m kw_489)) (by decide +kernel) ⟨Nat.le_of_ble_eq_true rfl, Nat.le_of_ble_eq_true rfl⟩), (hts _ (kx_m kw_490)), (hts _ (kx_m kw_491))⟩ (kx_preV (ci := 4) (q0 := 0) hK hN (hP.sub [1, 3] kt_11_1_3) (hD.sub [1, 3] (by decide) ks_11_1_3) rfl kg_2_0) rfl rfl hl.1 rfl (lv_room (Nat.le_of_ble_eq_true rfl)) dd_K_penalty_28 ⟨(by show (kg_c ln (cn + 1) 9) + 0 ≤ (kg_c ln (cn + 1) 9); first | exact Nat.le_refl _ | omega), (by show (kg_s ln (cn + 1) 4096 9 + kg_c ln (cn + 1) 4) + 0 ≤ (kg_s ln (cn + 1) 4096 9 + kg_c ln (cn + 1) 4); first | exact Nat.le_refl _ | omega)⟩) hP hD hS hA [1, 3] [0, 2, 4, 5, 6, 7, 8, 9, 10] ks_11_1_3 ks_11_0_2_4_5_6_7_8_9_10 (by decide) (by decide) (fun u28 H locs hw28 hP hD hS => ?_)
  refine kx_bud (cells := kg_c ln (cn + 1) 9) (slots := kg_s ln (cn + 1) 4096 9 + kg_c ln (cn + 1) 4) ?_ (by omega) (by omega)
  have hP : va_P D vwCl [(x, .inr (1, [.ref g, .ref t, .ref h, .ref o])), (i12_6, .inl (cI, ln2_6, .inl ik2_6)), (i32_6, .inl (cI, ln2_6, .inl ia2_6)), (i42_6, .inl (cI, ln2_6, .inl ib2_6)), (i52_6, .inl (cI, ln2_6, .inl if_2_6)), (i62_6, .inl (cJ, (ln2_6 + 1), .inr (.inl iw2_6))), (i72_6, .inl (cJ, (ln2_6 + 1), .inr (.inl is_2_6))), (i82_6, .inl (cJ, (ln2_6 + 1), .inr (.inl ih2_6))), (i92_6, .inl (cJ, (ln2_6 + 1), .inr (.inl ij2_6))), (t, .inr (4, [.int (nI (cn + 1)), .ref i12_6, .ref i22_6, .ref i32_6, .ref i42_6, .ref i52_6, .ref i62_6, .ref i72_6, .ref i82_6, .ref i92_6])), (i22_6, .inl (cI, ln2_6, .inl (upd ic2_6 cn (if (-10000) < (if p9 < (nI 10000) then p9 else nI 10000) then if p9 < (nI 10000) then p9 else nI 10000 else (-10000)))))] H := hP
  have hD : va_D A [(x, .inr (1, [.ref g, .ref t, .ref h, .ref o])), (i12_6, .inl (cI, ln2_6, .inl ik2_6)), (i32_6, .inl (cI, ln2_6, .inl ia2_6)), (i42_6, .inl (cI, ln2_6, .inl ib2_6)), (i52_6, .inl (cI, ln2_6, .inl if_2_6)), (i62_6, .inl (cJ, (ln2_6 + 1), .inr (.inl iw2_6))), (i72_6, .inl (cJ, (ln2_6 + 1), .inr (.inl is_2_6))), (i82_6, .inl (cJ, (ln2_6 + 1), .inr (.inl ih2_6))), (i92_6, .inl (cJ, (ln2_6 + 1), .inr (.inl ij2_6))), (t, .inr (4, [.int (nI (cn + 1)), .ref i12_6, .ref i22_6, .ref i32_6, .ref i42_6, .ref i52_6, .ref i62_6, .ref i72_6, .ref i82_6, .ref i92_6])), (i22_6, .inl (cI, ln2_6, .inl (upd ic2_6 cn (if (-10000) < (if p9 < (nI 10000) then p9 else nI 10000) then if p9 < (nI 10000) then p9 else nI 10000 else (-10000)))))] := hD
  have hP : va_P D vwCl [(x, .inr (1, [.ref g, .ref t, .ref h, .ref o])), (t, .inr (4, [.int (nI (cn + 1)), .ref i12_6, .ref i22_6, .ref i32_6, .ref i42_6, .ref i52_6, .ref i62_6, .ref i72_6, .ref i82_6, .ref i92_6])), (i12_6, .inl (cI, ln2_6, .inl ik2_6)), (i22_6, .inl (cI, ln2_6, .inl (upd ic2_6 cn (if (-10000) < (if p9 < (nI 10000) then p9 else nI 10000) then if p9 < (nI 10000) then p9 else nI 10000 else (-10000))))), (i32_6, .inl (cI, ln2_6, .inl ia2_6)), (i42_6, .inl (cI, ln2_6, .inl ib2_6)), (i52_6, .inl (cI, ln2_6, .inl if_2_6)), (i62_6, .inl (cJ, (ln2_6 + 1), .inr (.inl iw2_6))), (i72_6, .inl (cJ, (ln2_6 + 1), .inr (.inl is_2_6))), (i82_6, .inl (cJ, (ln2_6 + 1), .inr (.inl ih2_6))), (i92_6, .inl (cJ, (ln2_6 + 1), .inr (.inl ij2_6)))] H := hP.sub [0, 9, 1, 10, 2, 3, 4, 5, 6, 7, 8] kt_11_0_9_1_10_2_3_4_5_6_7_8
  have hD : va_D A [(x, .inr (1, [.ref g, .ref t, .ref h, .ref o])), (t, .inr (4, [.int (nI (cn + 1)), .ref i12_6, .ref i22_6, .ref i32_6, .ref i42_6, .ref i52_6, .ref i62_6, .ref i72_6, .ref i82_6, .ref i92_6])), (i12_6, .inl (cI, ln2_6, .inl ik2_6)), (i22_6, .inl (cI, ln2_6, .inl (upd ic2_6 cn (if (-10000) < (if p9 < (nI 10000) then p9 else nI 10000) then if p9 < (nI 10000) then p9 else nI 10000 else (-10000))))), (i32_6, .inl (cI, ln2_6, .inl ia2_6)), (i42_6, .inl (cI, ln2_6, .inl ib2_6)), (i52_6, .inl (cI, ln2_6, .inl if_2_6)), (i62_6, .inl (cJ, (ln2_6 + 1), .inr (.inl iw2_6))), (i72_6, .inl (cJ, (ln2_6 + 1), .inr (.inl is_2_6))), (i82_6, .inl (cJ, (ln2_6 + 1), .inr (.inl ih2_6))), (i92_6, .inl (cJ, (ln2_6 + 1), .inr (.inl ij2_6)))] := hD.sub [0, 9, 1, 10, 2, 3, 4, 5, 6, 7, 8] (by decide) ks_11_0_9_1_10_2_3_4_5_6_7_8
  refine lv_iload_n hx hb dd_K_penalty_31 rfl (lv_at hl 0 rfl) ?_
  rw [hQ]
  refine kx_widen (k := kg_c ln (cn + 1) 9) (n := kg_s ln (cn + 1) 4096 9 + kg_c ln (cn + 1) 4) (Nat.le_refl _) (Nat.le_refl _) ?_
  exact kx_iret hx hb hr hlocks hK hN hS dd_K_penalty_32 (i12_6, i22_6, i32_6, i42_6, i52_6, i62_6, i72_6, i82_6, i92_6, ln2_6, ik2_6, upd ic2_6 cn (if (-10000) < (if p9 < (nI 10000) then p9 else nI 10000) then if p9 < (nI 10000) then p9 else nI 10000 else (-10000)), ia2_6, ib2_6, if_2_6, iw2_6, is_2_6, ih2_6, ij2_6) hP hD (kf_pen hw6)


set_option maxHeartbeats 4000000 in
set_option maxRecDepth 100000 in
theorem ct_K_penalty_n (l : Launch) (D : va_G) (cI cJ cZ : ClassId) (sz : Nat) (x : Nat) (g : Nat) (t : Nat) (h : Nat) (o : Nat) (cn : Nat) (i1 : Nat) (i2 : Nat) (i3 : Nat) (i4 : Nat) (i5 : Nat) (i6 : Nat) (i7 : Nat) (i8 : Nat) (i9 : Nat) (ln : Nat) (ik : Nat → Int32) (ic : Nat → Int32) (ia : Nat → Int32) (ib : Nat → Int32) (if_ : Nat → Int32) (iw : Nat → Int64) (is_ : Nat → Int64) (ih : Nat → Int64) (ij : Nat → Int64) (p9 : Int32) (hno : 4096 ≤ cn) (h2 : cn < 2 ^ 20) (h3 : cn ≤ ln) (h4 : ln < 2 ^ 30) : kx_Mi l yy_K_penalty ww_K_penalty ({ frames := 1, cells := 0, slots := 0, locals := 23 }) D vwCl (kx_ty cI cJ cZ) [.ref x, .int p9] [(x, .inr (1, [.ref g, .ref t, .ref h, .ref o])), (t, .inr (4, [.int (nI cn), .ref i1, .ref i2, .ref i3, .ref i4, .ref i5, .ref i6, .ref i7, .ref i8, .ref i9])), (i1, .inl (cI, ln, .inl ik)), (i2, .inl (cI, ln, .inl ic)), (i3, .inl (cI, ln, .inl ia)), (i4, .inl (cI, ln, .inl ib)), (i5, .inl (cI, ln, .inl if_)), (i6, .inl (cJ, (ln + 1), .inr (.inl iw))), (i7, .inl (cJ, (ln + 1), .inr (.inl is_))), (i8, .inl (cJ, (ln + 1), .inr (.inl ih))), (i9, .inl (cJ, (ln + 1), .inr (.inl ij)))] sz (fun (r : Int32) (u : Unit) => r = (-1)) (fun (u : Unit) => [(x, .inr (1, [.ref g, .ref t, .ref h, .ref o])), (t, .inr (4, [.int (nI cn), .ref i1, .ref i2, .ref i3, .ref i4, .ref i5, .ref i6, .ref i7, .ref i8, .ref i9])), (i1, .inl (cI, ln, .inl ik)), (i2, .inl (cI, ln, .inl ic)), (i3, .inl (cI, ln, .inl ia)), (i4, .inl (cI, ln, .inl ib)), (i5, .inl (cI, ln, .inl if_)), (i6, .inl (cJ, (ln + 1), .inr (.inl iw))), (i7, .inl (cJ, (ln + 1), .inr (.inl is_))), (i8, .inl (cJ, (ln + 1), .inr (.inl ih))), (i9, .inl (cJ, (ln + 1), .inr (.inl ij)))]) 0 0 := by
  refine kx_starti (by decide) rfl (Nat.le_of_ble_eq_true rfl) ?_
  intro p e s m below meth c A ls hx hb hr hml hts hown hlocks hin hP hK hN hD hA hS hl
  have hl : lv_has ls 3 [(0, .ref x), (1, .int p9)] := hl
  have hown : s.vm.findClass rr_K = some m.cls := hown
  have lk0 := hts _ (kx_m kw_387)
  have hin1 : ∀ w ∈ u_ws rr_K tt_K 4, w ∈ ww_K_penalty := fun w h => kx_m (kf_K w h)
  obtain ⟨H, hH⟩ : ∃ H, H = s.heap := ⟨_, rfl⟩
  obtain ⟨locs, hlocs⟩ : ∃ z : List Loc, z = [] := ⟨_, rfl⟩
  have hP : va_P D vwCl [(x, .inr (1, [.ref g, .ref t, .ref h, .ref o])), (t, .inr (4, [.int (nI cn), .ref i1, .ref i2, .ref i3, .ref i4, .ref i5, .ref i6, .ref i7, .ref i8, .ref i9])), (i1, .inl (cI, ln, .inl ik)), (i2, .inl (cI, ln, .inl ic)), (i3, .inl (cI, ln, .inl ia)), (i4, .inl (cI, ln, .inl ib)), (i5, .inl (cI, ln, .inl if_)), (i6, .inl (cJ, (ln + 1), .inr (.inl iw))), (i7, .inl (cJ, (ln + 1), .inr (.inl is_))), (i8, .inl (cJ, (ln + 1), .inr (.inl ih))), (i9, .inl (cJ, (ln + 1), .inr (.inl ij)))] H := by rw [hH]; exact hP
  have hS : va_S A s.heap H locs := by rw [hH, hlocs]; exact hS
  refine kx_gen hH hlocs ?_
  clear hH hlocs
  refine kx_nameQ (fun Q hQ => ?_)
  refine lv_aload_n hx hb dd_K_penalty_0 rfl (lv_at hl 0 rfl) ?_
  refine va_get (D := D) (ci := 1) (v := .ref t) (C := rr_K) (T := tt_K) (N := 4) hx hb hts hin1 hown hK hP 0 kg_11_0 rfl 1 (by decide) lk0 (fun _ h9 => h9) rfl dd_K_penalty_1 ?_
  refine lv_iconst (v := nI 3) hx hb dd_K_penalty_4 (by decide) ?_
  refine lv_iconst (v := nI 0) hx hb dd_K_penalty_5 (by decide) ?_
  refine kx_calli (wr := [(x, .inr (1, [.ref g, .ref t, .ref h, .ref o]))]) (va_runV (C := rr_It) (As := [.int (nI 3), .int (nI 0)]) (rest := []) ⟨hx, hb, hml, hown, hts⟩ (ct_It_append_f l D cI cJ cZ H.size t cn i1 i2 i3 i4 i5 i6 i7 i8 i9 ln ik ic ia ib if_ iw is_ ih ij (nI 3) (nI 0) (by omega) (by omega)) ⟨(callB_of 2 hts (kx_good kw_458) rfl rfl rfl (hts _ (kx_m kw_47)) (hts _ (kx_m kw_455)) (by decide +kernel) ⟨Nat.le_of_ble_eq_true rfl, Nat.le_of_ble_eq_true rfl⟩), (hts _ (kx_m kw_456)), (hts _ (kx_m kw_457))⟩ (kx_preV (ci := 4) (q0 := 0) hK hN (hP.sub [1, 2, 3, 4, 5, 6, 7, 8, 9, 10] kt_11_1_2_3_4_5_6_7_8_9_10) (hD.sub [1, 2, 3, 4, 5, 6, 7, 8, 9, 10] (by decide) ks_11_1_2_3_4_5_6_7_8_9_10) rfl kg_10_0) rfl rfl hl.1 rfl (lv_room (Nat.le_of_ble_eq_true rfl)) dd_K_penalty_6 ⟨Nat.le_of_ble_eq_true rfl, Nat.le_of_ble_eq_true rfl⟩) hP hD hS hA [1, 2, 3, 4, 5, 6, 7, 8, 9, 10] [0] ks_11_1_2_3_4_5_6_7_8_9_10 ks_11_0 (by decide) (by decide) (fun r6 u6 H locs hw6 hP hD hS => ?_)
  have hP : va_P D vwCl [(x, .inr (1, [.ref g, .ref t, .ref h, .ref o])), (t, .inr (4, [.int (nI cn), .ref i1, .ref i2, .ref i3, .ref i4, .ref i5, .ref i6, .ref i7, .ref i8, .ref i9])), (i1, .inl (cI, ln, .inl ik)), (i2, .inl (cI, ln, .inl ic)), (i3, .inl (cI, ln, .inl ia)), (i4, .inl (cI, ln, .inl ib)), (i5, .inl (cI, ln, .inl if_)), (i6, .inl (cJ, (ln + 1), .inr (.inl iw))), (i7, .inl (cJ, (ln + 1), .inr (.inl is_))), (i8, .inl (cJ, (ln + 1), .inr (.inl ih))), (i9, .inl (cJ, (ln + 1), .inr (.inl ij)))] H := hP
  have hD : va_D A [(x, .inr (1, [.ref g, .ref t, .ref h, .ref o])), (t, .inr (4, [.int (nI cn), .ref i1, .ref i2, .ref i3, .ref i4, .ref i5, .ref i6, .ref i7, .ref i8, .ref i9])), (i1, .inl (cI, ln, .inl ik)), (i2, .inl (cI, ln, .inl ic)), (i3, .inl (cI, ln, .inl ia)), (i4, .inl (cI, ln, .inl ib)), (i5, .inl (cI, ln, .inl if_)), (i6, .inl (cJ, (ln + 1), .inr (.inl iw))), (i7, .inl (cJ, (ln + 1), .inr (.inl is_))), (i8, .inl (cJ, (ln + 1), .inr (.inl ih))), (i9, .inl (cJ, (ln + 1), .inr (.inl ij)))] := hD
  have hw6 : r6 = (-1) := hw6
  subst hw6
  refine lv_istore_n (lv' := [(2, .int (-1)), (0, .ref x), (1, .int p9)]) hx hb dd_K_penalty_9 rfl hl (by decide) rfl (fun ls hl => ?_)
  refine lv_aload_n hx hb dd_K_penalty_10 rfl (lv_at hl 1 rfl) ?_
  refine va_get (D := D) (ci := 1) (v := .ref t) (C := rr_K) (T := tt_K) (N := 4) hx hb hts hin1 hown hK hP 0 kg_11_0 rfl 1 (by decide) lk0 (fun _ h9 => h9) rfl dd_K_penalty_11 ?_
  refine lv_iload_n hx hb dd_K_penalty_14 rfl (lv_at hl 0 rfl) ?_
  refine lv_sipush (v := (-10000)) hx hb dd_K_penalty_15 (by decide) ?_
  refine lv_sipush (v := nI 10000) hx hb dd_K_penalty_18 (by decide) ?_
  refine lv_iload_n hx hb dd_K_penalty_21 rfl (lv_at hl 2 rfl) ?_
  refine va_mmin hx hb (by rw [hml]; exact hl.1.symm) hown (hts _ (kx_m kw_420)) (hts _ (kx_m kw_421)) (hts _ (kx_m kw_54)) (hts _ (kx_m kw_422)) (Nat.le_of_ble_eq_true rfl) (Nat.le_of_ble_eq_true rfl) (Nat.zero_le _) (Nat.zero_le _) dd_K_penalty_22 ?_
  refine va_mmax hx hb (by rw [hml]; exact hl.1.symm) hown (hts _ (kx_m kw_423)) (hts _ (kx_m kw_424)) (hts _ (kx_m kw_54)) (hts _ (kx_m kw_425)) (Nat.le_of_ble_eq_true rfl) (Nat.le_of_ble_eq_true rfl) (Nat.zero_le _) (Nat.zero_le _) dd_K_penalty_25 ?_
  refine kx_callv (wr := [(x, .inr (1, [.ref g, .ref t, .ref h, .ref o])), (i1, .inl (cI, ln, .inl ik)), (i3, .inl (cI, ln, .inl ia)), (i4, .inl (cI, ln, .inl ib)), (i5, .inl (cI, ln, .inl if_)), (i6, .inl (cJ, (ln + 1), .inr (.inl iw))), (i7, .inl (cJ, (ln + 1), .inr (.inl is_))), (i8, .inl (cJ, (ln + 1), .inr (.inl ih))), (i9, .inl (cJ, (ln + 1), .inr (.inl ij)))]) (va_runV (C := rr_It) (As := [.int (-1), .int (if (-10000) < (if p9 < (nI 10000) then p9 else nI 10000) then if p9 < (nI 10000) then p9 else nI 10000 else (-10000))]) (rest := []) ⟨hx, hb, hml, hown, hts⟩ (ct_It_setCost_n l D cI cJ cZ H.size t cn i1 i2 i3 i4 i5 i6 i7 i8 i9 ln ic (if (-10000) < (if p9 < (nI 10000) then p9 else nI 10000) then if p9 < (nI 10000) then p9 else nI 10000 else (-10000)) (by omega) (by omega)) ⟨(callB_of 2 hts (kx_good kw_492) rfl rfl rfl (hts _ (kx_m kw_47)) (hts _ (kx_m kw_489)) (by decide +kernel) ⟨Nat.le_of_ble_eq_true rfl, Nat.le_of_ble_eq_true rfl⟩), (hts _ (kx_m kw_490)), (hts _ (kx_m kw_491))⟩ (kx_preV (ci := 4) (q0 := 0) hK hN (hP.sub [1, 3] kt_11_1_3) (hD.sub [1, 3] (by decide) ks_11_1_3) rfl kg_2_0) rfl rfl hl.1 rfl (lv_room (Nat.le_of_ble_eq_true rfl)) dd_K_penalty_28 ⟨Nat.le_of_ble_eq_true rfl, Nat.le_of_ble_eq_true rfl⟩) hP hD hS hA [1, 3] [0, 2, 4, 5, 6, 7, 8, 9, 10] ks_11_1_3 ks_11_0_2_4_5_6_7_8_9_10 (by decide) (by decide) (fun u28 H locs hw28 hP hD hS => ?_)
  have hP : va_P D vwCl [(x, .inr (1, [.ref g, .ref t, .ref h, .ref o])), (i1, .inl (cI, ln, .inl ik)), (i3, .inl (cI, ln, .inl ia)), (i4, .inl (cI, ln, .inl ib)), (i5, .inl (cI, ln, .inl if_)), (i6, .inl (cJ, (ln + 1), .inr (.inl iw))), (i7, .inl (cJ, (ln + 1), .inr (.inl is_))), (i8, .inl (cJ, (ln + 1), .inr (.inl ih))), (i9, .inl (cJ, (ln + 1), .inr (.inl ij))), (t, .inr (4, [.int (nI cn), .ref i1, .ref i2, .ref i3, .ref i4, .ref i5, .ref i6, .ref i7, .ref i8, .ref i9])), (i2, .inl (cI, ln, .inl ic))] H := hP
  have hD : va_D A [(x, .inr (1, [.ref g, .ref t, .ref h, .ref o])), (i1, .inl (cI, ln, .inl ik)), (i3, .inl (cI, ln, .inl ia)), (i4, .inl (cI, ln, .inl ib)), (i5, .inl (cI, ln, .inl if_)), (i6, .inl (cJ, (ln + 1), .inr (.inl iw))), (i7, .inl (cJ, (ln + 1), .inr (.inl is_))), (i8, .inl (cJ, (ln + 1), .inr (.inl ih))), (i9, .inl (cJ, (ln + 1), .inr (.inl ij))), (t, .inr (4, [.int (nI cn), .ref i1, .ref i2, .ref i3, .ref i4, .ref i5, .ref i6, .ref i7, .ref i8, .ref i9])), (i2, .inl (cI, ln, .inl ic))] := hD
  have hP : va_P D vwCl [(x, .inr (1, [.ref g, .ref t, .ref h, .ref o])), (t, .inr (4, [.int (nI cn), .ref i1, .ref i2, .ref i3, .ref i4, .ref i5, .ref i6, .ref i7, .ref i8, .ref i9])), (i1, .inl (cI, ln, .inl ik)), (i2, .inl (cI, ln, .inl ic)), (i3, .inl (cI, ln, .inl ia)), (i4, .inl (cI, ln, .inl ib)), (i5, .inl (cI, ln, .inl if_)), (i6, .inl (cJ, (ln + 1), .inr (.inl iw))), (i7, .inl (cJ, (ln + 1), .inr (.inl is_))), (i8, .inl (cJ, (ln + 1), .inr (.inl ih))), (i9, .inl (cJ, (ln + 1), .inr (.inl ij)))] H := hP.sub [0, 9, 1, 10, 2, 3, 4, 5, 6, 7, 8] kt_11_0_9_1_10_2_3_4_5_6_7_8
  have hD : va_D A [(x, .inr (1, [.ref g, .ref t, .ref h, .ref o])), (t, .inr (4, [.int (nI cn), .ref i1, .ref i2, .ref i3, .ref i4, .ref i5, .ref i6, .ref i7, .ref i8, .ref i9])), (i1, .inl (cI, ln, .inl ik)), (i2, .inl (cI, ln, .inl ic)), (i3, .inl (cI, ln, .inl ia)), (i4, .inl (cI, ln, .inl ib)), (i5, .inl (cI, ln, .inl if_)), (i6, .inl (cJ, (ln + 1), .inr (.inl iw))), (i7, .inl (cJ, (ln + 1), .inr (.inl is_))), (i8, .inl (cJ, (ln + 1), .inr (.inl ih))), (i9, .inl (cJ, (ln + 1), .inr (.inl ij)))] := hD.sub [0, 9, 1, 10, 2, 3, 4, 5, 6, 7, 8] (by decide) ks_11_0_9_1_10_2_3_4_5_6_7_8
  refine lv_iload_n hx hb dd_K_penalty_31 rfl (lv_at hl 0 rfl) ?_
  rw [hQ]
  exact kx_iret hx hb hr hlocks hK hN hS dd_K_penalty_32 () hP hD rfl

theorem dd_K_cut_0 : decode bb_K_cut 0 = .ok (.iload_n 1, 1) := by decide +kernel
theorem dd_K_cut_1 : decode bb_K_cut 1 = .ok (.invokestatic 48, 3) := by decide +kernel
theorem dd_K_cut_4 : decode bb_K_cut 4 = .ok (.ifCond .eq (17), 3) := by decide +kernel
theorem dd_K_cut_7 : decode bb_K_cut 7 = .ok (.iload_n 2, 1) := by decide +kernel
theorem dd_K_cut_8 : decode bb_K_cut 8 = .ok (.invokestatic 48, 3) := by decide +kernel
theorem dd_K_cut_11 : decode bb_K_cut 11 = .ok (.ifCond .eq (10), 3) := by decide +kernel
theorem dd_K_cut_14 : decode bb_K_cut 14 = .ok (.iload_n 3, 1) := by decide +kernel
theorem dd_K_cut_15 : decode bb_K_cut 15 = .ok (.invokestatic 48, 3) := by decide +kernel
theorem dd_K_cut_18 : decode bb_K_cut 18 = .ok (.ifCond .ne (5), 3) := by decide +kernel
theorem dd_K_cut_21 : decode bb_K_cut 21 = .ok (.iconst (-1), 1) := by decide +kernel
theorem dd_K_cut_22 : decode bb_K_cut 22 = .ok (.ireturn, 1) := by decide +kernel
theorem dd_K_cut_23 : decode bb_K_cut 23 = .ok (.iload 4, 2) := by decide +kernel
theorem dd_K_cut_25 : decode bb_K_cut 25 = .ok (.ifCond .lt (10), 3) := by decide +kernel
theorem dd_K_cut_28 : decode bb_K_cut 28 = .ok (.iload 4, 2) := by decide +kernel
theorem dd_K_cut_30 : decode bb_K_cut 30 = .ok (.bipush (7), 2) := by decide +kernel
theorem dd_K_cut_32 : decode bb_K_cut 32 = .ok (.if_icmp .le (5), 3) := by decide +kernel
theorem dd_K_cut_35 : decode bb_K_cut 35 = .ok (.iconst (-1), 1) := by decide +kernel
theorem dd_K_cut_36 : decode bb_K_cut 36 = .ok (.ireturn, 1) := by decide +kernel
theorem dd_K_cut_37 : decode bb_K_cut 37 = .ok (.aload_n 0, 1) := by decide +kernel
theorem dd_K_cut_38 : decode bb_K_cut 38 = .ok (.getfield 19, 3) := by decide +kernel
theorem dd_K_cut_41 : decode bb_K_cut 41 = .ok (.iconst 4, 1) := by decide +kernel
theorem dd_K_cut_42 : decode bb_K_cut 42 = .ok (.iload_n 3, 1) := by decide +kernel
theorem dd_K_cut_43 : decode bb_K_cut 43 = .ok (.invokevirtual 73, 3) := by decide +kernel
theorem dd_K_cut_46 : decode bb_K_cut 46 = .ok (.istore 5, 2) := by decide +kernel
theorem dd_K_cut_48 : decode bb_K_cut 48 = .ok (.aload_n 0, 1) := by decide +kernel
theorem dd_K_cut_49 : decode bb_K_cut 49 = .ok (.getfield 19, 3) := by decide +kernel
theorem dd_K_cut_52 : decode bb_K_cut 52 = .ok (.iload 5, 2) := by decide +kernel
theorem dd_K_cut_54 : decode bb_K_cut 54 = .ok (.iload_n 1, 1) := by decide +kernel
theorem dd_K_cut_55 : decode bb_K_cut 55 = .ok (.iload_n 2, 1) := by decide +kernel
theorem dd_K_cut_56 : decode bb_K_cut 56 = .ok (.iload 4, 2) := by decide +kernel
theorem dd_K_cut_58 : decode bb_K_cut 58 = .ok (.invokevirtual 91, 3) := by decide +kernel
theorem dd_K_cut_61 : decode bb_K_cut 61 = .ok (.iload 5, 2) := by decide +kernel
theorem dd_K_cut_63 : decode bb_K_cut 63 = .ok (.ireturn, 1) := by decide +kernel

set_option maxHeartbeats 4000000 in
set_option maxRecDepth 100000 in
theorem ct_K_cut (l : Launch) (D : va_G) (cI cJ cZ : ClassId) (sz : Nat) (x : Nat) (g : Nat) (t : Nat) (h : Nat) (o : Nat) (cn : Nat) (i1 : Nat) (i2 : Nat) (i3 : Nat) (i4 : Nat) (i5 : Nat) (i6 : Nat) (i7 : Nat) (i8 : Nat) (i9 : Nat) (ln : Nat) (ik : Nat → Int32) (ic : Nat → Int32) (ia : Nat → Int32) (ib : Nat → Int32) (if_ : Nat → Int32) (iw : Nat → Int64) (is_ : Nat → Int64) (ih : Nat → Int64) (ij : Nat → Int64) (a9 : Int32) (b9 : Int32) (u9 : Int32) (f9 : Int32) (hy : pm_cu a9 b9 u9 f9) (h1 : cn < 4096) (h2 : cn ≤ ln) (h3 : ln ≤ 4096) : kx_Mi l yy_K_cut ww_K_cut ({ frames := 4, cells := kg_c ln (cn + 1) 9, slots := kg_s ln (cn + 1) 4096 9 + kg_c ln (cn + 1) 4, locals := 99 }) D vwCl (kx_ty cI cJ cZ) [.ref x, .int a9, .int b9, .int u9, .int f9] [(x, .inr (1, [.ref g, .ref t, .ref h, .ref o])), (t, .inr (4, [.int (nI cn), .ref i1, .ref i2, .ref i3, .ref i4, .ref i5, .ref i6, .ref i7, .ref i8, .ref i9])), (i1, .inl (cI, ln, .inl ik)), (i2, .inl (cI, ln, .inl ic)), (i3, .inl (cI, ln, .inl ia)), (i4, .inl (cI, ln, .inl ib)), (i5, .inl (cI, ln, .inl if_)), (i6, .inl (cJ, (ln + 1), .inr (.inl iw))), (i7, .inl (cJ, (ln + 1), .inr (.inl is_))), (i8, .inl (cJ, (ln + 1), .inr (.inl ih))), (i9, .inl (cJ, (ln + 1), .inr (.inl ij)))] sz (fun (r : Int32) (u : Nat × Nat × Nat × Nat × Nat × Nat × Nat × Nat × Nat × Nat × (Nat → Int32) × (Nat → Int32) × (Nat → Int32) × (Nat → Int32) × (Nat → Int32) × (Nat → Int64) × (Nat → Int64) × (Nat → Int64) × (Nat → Int64)) => (r = nI cn) ∧ (u.2.2.2.2.2.2.2.2.2.1 = kg_n ln (cn + 1) 4096 ∧ (∀ j, j < cn → u.2.2.2.2.2.2.2.2.2.2.1 j = ik j ∧ u.2.2.2.2.2.2.2.2.2.2.2.1 j = ic j ∧ u.2.2.2.2.2.2.2.2.2.2.2.2.1 j = ia j ∧ u.2.2.2.2.2.2.2.2.2.2.2.2.2.1 j = ib j ∧ u.2.2.2.2.2.2.2.2.2.2.2.2.2.2.1 j = if_ j) ∧ u.2.2.2.2.2.2.2.2.2.2.1 cn = nI 4 ∧ (∀ j, j < cn + 1 → u.2.2.2.2.2.2.2.2.2.2.2.2.2.2.2.1 j = iw j ∧ u.2.2.2.2.2.2.2.2.2.2.2.2.2.2.2.2.1 j = is_ j ∧ u.2.2.2.2.2.2.2.2.2.2.2.2.2.2.2.2.2.1 j = ih j ∧ u.2.2.2.2.2.2.2.2.2.2.2.2.2.2.2.2.2.2 j = ij j) ∧ u.2.2.2.2.2.2.2.2.2.2.2.2.2.2.2.1 (cn + 1) = iw cn + u9.toInt64 ∧ u.2.2.2.2.2.2.2.2.2.2.2.2.2.2.2.2.1 (cn + 1) = is_ cn ∧ u.2.2.2.2.2.2.2.2.2.2.2.2.2.2.2.2.2.1 (cn + 1) = ih cn ∧ u.2.2.2.2.2.2.2.2.2.2.2.2.2.2.2.2.2.2 (cn + 1) = ij cn ∧ u.2.2.2.2.2.2.2.2.2.2.2.2.1 cn = a9 ∧ u.2.2.2.2.2.2.2.2.2.2.2.2.2.1 cn = b9 ∧ u.2.2.2.2.2.2.2.2.2.2.2.2.2.2.1 cn = f9)) (fun (u : Nat × Nat × Nat × Nat × Nat × Nat × Nat × Nat × Nat × Nat × (Nat → Int32) × (Nat → Int32) × (Nat → Int32) × (Nat → Int32) × (Nat → Int32) × (Nat → Int64) × (Nat → Int64) × (Nat → Int64) × (Nat → Int64)) => [(x, .inr (1, [.ref g, .ref t, .ref h, .ref o])), (t, .inr (4, [.int (nI (cn + 1)), .ref u.1, .ref u.2.1, .ref u.2.2.1, .ref u.2.2.2.1, .ref u.2.2.2.2.1, .ref u.2.2.2.2.2.1, .ref u.2.2.2.2.2.2.1, .ref u.2.2.2.2.2.2.2.1, .ref u.2.2.2.2.2.2.2.2.1])), (u.1, .inl (cI, u.2.2.2.2.2.2.2.2.2.1, .inl u.2.2.2.2.2.2.2.2.2.2.1)), (u.2.1, .inl (cI, u.2.2.2.2.2.2.2.2.2.1, .inl u.2.2.2.2.2.2.2.2.2.2.2.1)), (u.2.2.1, .inl (cI, u.2.2.2.2.2.2.2.2.2.1, .inl u.2.2.2.2.2.2.2.2.2.2.2.2.1)), (u.2.2.2.1, .inl (cI, u.2.2.2.2.2.2.2.2.2.1, .inl u.2.2.2.2.2.2.2.2.2.2.2.2.2.1)), (u.2.2.2.2.1, .inl (cI, u.2.2.2.2.2.2.2.2.2.1, .inl u.2.2.2.2.2.2.2.2.2.2.2.2.2.2.1)), (u.2.2.2.2.2.1, .inl (cJ, (u.2.2.2.2.2.2.2.2.2.1 + 1), .inr (.inl u.2.2.2.2.2.2.2.2.2.2.2.2.2.2.2.1))), (u.2.2.2.2.2.2.1, .inl (cJ, (u.2.2.2.2.2.2.2.2.2.1 + 1), .inr (.inl u.2.2.2.2.2.2.2.2.2.2.2.2.2.2.2.2.1))), (u.2.2.2.2.2.2.2.1, .inl (cJ, (u.2.2.2.2.2.2.2.2.2.1 + 1), .inr (.inl u.2.2.2.2.2.2.2.2.2.2.2.2.2.2.2.2.2.1))), (u.2.2.2.2.2.2.2.2.1, .inl (cJ, (u.2.2.2.2.2.2.2.2.2.1 + 1), .inr (.inl u.2.2.2.2.2.2.2.2.2.2.2.2.2.2.2.2.2.2)))]) (kg_c ln (cn + 1) 9) (kg_s ln (cn + 1) 4096 9 + kg_c ln (cn + 1) 4) := by
  refine kx_starti (by decide) rfl (Nat.le_of_ble_eq_true rfl) ?_
  intro p e s m below meth c A ls hx hb hr hml hts hown hlocks hin hP hK hN hD hA hS hl
  have hl : lv_has ls 6 [(0, .ref x), (1, .int a9), (2, .int b9), (3, .int u9), (4, .int f9)] := hl
  have hown : s.vm.findClass rr_K = some m.cls := hown
  have lk0 := hts _ (kx_m kw_387)
  have hin1 : ∀ w ∈ u_ws rr_K tt_K 4, w ∈ ww_K_cut := fun w h => kx_m (kf_K w h)
  obtain ⟨H, hH⟩ : ∃ H, H = s.heap := ⟨_, rfl⟩
  obtain ⟨locs, hlocs⟩ : ∃ z : List Loc, z = [] := ⟨_, rfl⟩
  have hP : va_P D vwCl [(x, .inr (1, [.ref g, .ref t, .ref h, .ref o])), (t, .inr (4, [.int (nI cn), .ref i1, .ref i2, .ref i3, .ref i4, .ref i5, .ref i6, .ref i7, .ref i8, .ref i9])), (i1, .inl (cI, ln, .inl ik)), (i2, .inl (cI, ln, .inl ic)), (i3, .inl (cI, ln, .inl ia)), (i4, .inl (cI, ln, .inl ib)), (i5, .inl (cI, ln, .inl if_)), (i6, .inl (cJ, (ln + 1), .inr (.inl iw))), (i7, .inl (cJ, (ln + 1), .inr (.inl is_))), (i8, .inl (cJ, (ln + 1), .inr (.inl ih))), (i9, .inl (cJ, (ln + 1), .inr (.inl ij)))] H := by rw [hH]; exact hP
  have hS : va_S A s.heap H locs := by rw [hH, hlocs]; exact hS
  refine kx_gen hH hlocs ?_
  clear hH hlocs
  refine kx_nameQ (fun Q hQ => ?_)
  refine lv_iload_n hx hb dd_K_cut_0 rfl (lv_at hl 1 rfl) ?_
  refine kx_calli (wr := [(x, .inr (1, [.ref g, .ref t, .ref h, .ref o])), (t, .inr (4, [.int (nI cn), .ref i1, .ref i2, .ref i3, .ref i4, .ref i5, .ref i6, .ref i7, .ref i8, .ref i9])), (i1, .inl (cI, ln, .inl ik)), (i2, .inl (cI, ln, .inl ic)), (i3, .inl (cI, ln, .inl ia)), (i4, .inl (cI, ln, .inl ib)), (i5, .inl (cI, ln, .inl if_)), (i6, .inl (cJ, (ln + 1), .inr (.inl iw))), (i7, .inl (cJ, (ln + 1), .inr (.inl is_))), (i8, .inl (cJ, (ln + 1), .inr (.inl ih))), (i9, .inl (cJ, (ln + 1), .inr (.inl ij)))]) (va_runS (As := [.int a9]) (rest := []) ⟨hx, hb, hml, hown, hts⟩ (ct_K_isWidth l D cI cJ cZ H.size a9) ⟨(callB_of 1 hts (kx_good kw_410) rfl rfl rfl (hts _ (kx_m kw_44)) (hts _ (kx_m kw_408)) (by decide +kernel) ⟨Nat.le_of_ble_eq_true rfl, Nat.le_of_ble_eq_true rfl⟩), (hts _ (kx_m kw_409))⟩ (kx_preS hK hN (hP.sub [] kt_11_) (hD.sub [] (by decide) ks_11_)) rfl rfl hl.1 rfl (lv_room (Nat.le_of_ble_eq_true rfl)) dd_K_cut_1 ⟨(by show 0 + 0 ≤ (kg_c ln (cn + 1) 9); first | exact Nat.le_refl _ | omega), (by show 0 + 0 ≤ (kg_s ln (cn + 1) 4096 9 + kg_c ln (cn + 1) 4); first | exact Nat.le_refl _ | omega)⟩) hP hD hS hA [] [0, 1, 2, 3, 4, 5, 6, 7, 8, 9, 10] ks_11_ ks_11_0_1_2_3_4_5_6_7_8_9_10 (by decide) (by decide) (fun r1 u1 H locs hw1 hP hD hS => ?_)
  refine kx_bud (cells := 0) (slots := 0) ?_ (by omega) (by omega)
  have hP : va_P D vwCl [(x, .inr (1, [.ref g, .ref t, .ref h, .ref o])), (t, .inr (4, [.int (nI cn), .ref i1, .ref i2, .ref i3, .ref i4, .ref i5, .ref i6, .ref i7, .ref i8, .ref i9])), (i1, .inl (cI, ln, .inl ik)), (i2, .inl (cI, ln, .inl ic)), (i3, .inl (cI, ln, .inl ia)), (i4, .inl (cI, ln, .inl ib)), (i5, .inl (cI, ln, .inl if_)), (i6, .inl (cJ, (ln + 1), .inr (.inl iw))), (i7, .inl (cJ, (ln + 1), .inr (.inl is_))), (i8, .inl (cJ, (ln + 1), .inr (.inl ih))), (i9, .inl (cJ, (ln + 1), .inr (.inl ij)))] H := hP
  have hD : va_D A [(x, .inr (1, [.ref g, .ref t, .ref h, .ref o])), (t, .inr (4, [.int (nI cn), .ref i1, .ref i2, .ref i3, .ref i4, .ref i5, .ref i6, .ref i7, .ref i8, .ref i9])), (i1, .inl (cI, ln, .inl ik)), (i2, .inl (cI, ln, .inl ic)), (i3, .inl (cI, ln, .inl ia)), (i4, .inl (cI, ln, .inl ib)), (i5, .inl (cI, ln, .inl if_)), (i6, .inl (cJ, (ln + 1), .inr (.inl iw))), (i7, .inl (cJ, (ln + 1), .inr (.inl is_))), (i8, .inl (cJ, (ln + 1), .inr (.inl ih))), (i9, .inl (cJ, (ln + 1), .inr (.inl ij)))] := hD
  have hw1 : r1 = kb_p (pm_wi a9) := hw1
  subst hw1
  refine lv_if_eq (tgt := 21) hx hb dd_K_cut_4 (by decide) (fun c4 => ?_) (fun c4 => ?_)
  · skip
    have c4 : ¬ (pm_wi a9) := kb_0.mp c4
    exact absurd hy.1 c4
  · skip
    have c4 : pm_wi a9 := kb_1.mp c4
    refine lv_iload_n hx hb dd_K_cut_7 rfl (lv_at hl 2 rfl) ?_
    refine kx_calli (wr := [(x, .inr (1, [.ref g, .ref t, .ref h, .ref o])), (t, .inr (4, [.int (nI cn), .ref i1, .ref i2, .ref i3, .ref i4, .ref i5, .ref i6, .ref i7, .ref i8, .ref i9])), (i1, .inl (cI, ln, .inl ik)), (i2, .inl (cI, ln, .inl ic)), (i3, .inl (cI, ln, .inl ia)), (i4, .inl (cI, ln, .inl ib)), (i5, .inl (cI, ln, .inl if_)), (i6, .inl (cJ, (ln + 1), .inr (.inl iw))), (i7, .inl (cJ, (ln + 1), .inr (.inl is_))), (i8, .inl (cJ, (ln + 1), .inr (.inl ih))), (i9, .inl (cJ, (ln + 1), .inr (.inl ij)))]) (va_runS (As := [.int b9]) (rest := []) ⟨hx, hb, hml, hown, hts⟩ (ct_K_isWidth l D cI cJ cZ H.size b9) ⟨(callB_of 1 hts (kx_good kw_410) rfl rfl rfl (hts _ (kx_m kw_44)) (hts _ (kx_m kw_408)) (by decide +kernel) ⟨Nat.le_of_ble_eq_true rfl, Nat.le_of_ble_eq_true rfl⟩), (hts _ (kx_m kw_409))⟩ (kx_preS hK hN (hP.sub [] kt_11_) (hD.sub [] (by decide) ks_11_)) rfl rfl hl.1 rfl (lv_room (Nat.le_of_ble_eq_true rfl)) dd_K_cut_8 ⟨(by show 0 + 0 ≤ (kg_c ln (cn + 1) 9); first | exact Nat.le_refl _ | omega), (by show 0 + 0 ≤ (kg_s ln (cn + 1) 4096 9 + kg_c ln (cn + 1) 4); first | exact Nat.le_refl _ | omega)⟩) hP hD hS hA [] [0, 1, 2, 3, 4, 5, 6, 7, 8, 9, 10] ks_11_ ks_11_0_1_2_3_4_5_6_7_8_9_10 (by decide) (by decide) (fun r8 u8 H locs hw8 hP hD hS => ?_)
    refine kx_bud (cells := 0) (slots := 0) ?_ (by omega) (by omega)
    have hP : va_P D vwCl [(x, .inr (1, [.ref g, .ref t, .ref h, .ref o])), (t, .inr (4, [.int (nI cn), .ref i1, .ref i2, .ref i3, .ref i4, .ref i5, .ref i6, .ref i7, .ref i8, .ref i9])), (i1, .inl (cI, ln, .inl ik)), (i2, .inl (cI, ln, .inl ic)), (i3, .inl (cI, ln, .inl ia)), (i4, .inl (cI, ln, .inl ib)), (i5, .inl (cI, ln, .inl if_)), (i6, .inl (cJ, (ln + 1), .inr (.inl iw))), (i7, .inl (cJ, (ln + 1), .inr (.inl is_))), (i8, .inl (cJ, (ln + 1), .inr (.inl ih))), (i9, .inl (cJ, (ln + 1), .inr (.inl ij)))] H := hP
    have hD : va_D A [(x, .inr (1, [.ref g, .ref t, .ref h, .ref o])), (t, .inr (4, [.int (nI cn), .ref i1, .ref i2, .ref i3, .ref i4, .ref i5, .ref i6, .ref i7, .ref i8, .ref i9])), (i1, .inl (cI, ln, .inl ik)), (i2, .inl (cI, ln, .inl ic)), (i3, .inl (cI, ln, .inl ia)), (i4, .inl (cI, ln, .inl ib)), (i5, .inl (cI, ln, .inl if_)), (i6, .inl (cJ, (ln + 1), .inr (.inl iw))), (i7, .inl (cJ, (ln + 1), .inr (.inl is_))), (i8, .inl (cJ, (ln + 1), .inr (.inl ih))), (i9, .inl (cJ, (ln + 1), .inr (.inl ij)))] := hD
    have hw8 : r8 = kb_p (pm_wi b9) := hw8
    subst hw8
    refine lv_if_eq (tgt := 21) hx hb dd_K_cut_11 (by decide) (fun c11 => ?_) (fun c11 => ?_)
    · skip
      have c11 : ¬ (pm_wi b9) := kb_0.mp c11
      exact absurd hy.2.1 c11
    · skip
      have c11 : pm_wi b9 := kb_1.mp c11
      refine lv_iload_n hx hb dd_K_cut_14 rfl (lv_at hl 3 rfl) ?_
      refine kx_calli (wr := [(x, .inr (1, [.ref g, .ref t, .ref h, .ref o])), (t, .inr (4, [.int (nI cn), .ref i1, .ref i2, .ref i3, .ref i4, .ref i5, .ref i6, .ref i7, .ref i8, .ref i9])), (i1, .inl (cI, ln, .inl ik)), (i2, .inl (cI, ln, .inl ic)), (i3, .inl (cI, ln, .inl ia)), (i4, .inl (cI, ln, .inl ib)), (i5, .inl (cI, ln, .inl if_)), (i6, .inl (cJ, (ln + 1), .inr (.inl iw))), (i7, .inl (cJ, (ln + 1), .inr (.inl is_))), (i8, .inl (cJ, (ln + 1), .inr (.inl ih))), (i9, .inl (cJ, (ln + 1), .inr (.inl ij)))]) (va_runS (As := [.int u9]) (rest := []) ⟨hx, hb, hml, hown, hts⟩ (ct_K_isWidth l D cI cJ cZ H.size u9) ⟨(callB_of 1 hts (kx_good kw_410) rfl rfl rfl (hts _ (kx_m kw_44)) (hts _ (kx_m kw_408)) (by decide +kernel) ⟨Nat.le_of_ble_eq_true rfl, Nat.le_of_ble_eq_true rfl⟩), (hts _ (kx_m kw_409))⟩ (kx_preS hK hN (hP.sub [] kt_11_) (hD.sub [] (by decide) ks_11_)) rfl rfl hl.1 rfl (lv_room (Nat.le_of_ble_eq_true rfl)) dd_K_cut_15 ⟨(by show 0 + 0 ≤ (kg_c ln (cn + 1) 9); first | exact Nat.le_refl _ | omega), (by show 0 + 0 ≤ (kg_s ln (cn + 1) 4096 9 + kg_c ln (cn + 1) 4); first | exact Nat.le_refl _ | omega)⟩) hP hD hS hA [] [0, 1, 2, 3, 4, 5, 6, 7, 8, 9, 10] ks_11_ ks_11_0_1_2_3_4_5_6_7_8_9_10 (by decide) (by decide) (fun r15 u15 H locs hw15 hP hD hS => ?_)
      refine kx_bud (cells := 0) (slots := 0) ?_ (by omega) (by omega)
      have hP : va_P D vwCl [(x, .inr (1, [.ref g, .ref t, .ref h, .ref o])), (t, .inr (4, [.int (nI cn), .ref i1, .ref i2, .ref i3, .ref i4, .ref i5, .ref i6, .ref i7, .ref i8, .ref i9])), (i1, .inl (cI, ln, .inl ik)), (i2, .inl (cI, ln, .inl ic)), (i3, .inl (cI, ln, .inl ia)), (i4, .inl (cI, ln, .inl ib)), (i5, .inl (cI, ln, .inl if_)), (i6, .inl (cJ, (ln + 1), .inr (.inl iw))), (i7, .inl (cJ, (ln + 1), .inr (.inl is_))), (i8, .inl (cJ, (ln + 1), .inr (.inl ih))), (i9, .inl (cJ, (ln + 1), .inr (.inl ij)))] H := hP
      have hD : va_D A [(x, .inr (1, [.ref g, .ref t, .ref h, .ref o])), (t, .inr (4, [.int (nI cn), .ref i1, .ref i2, .ref i3, .ref i4, .ref i5, .ref i6, .ref i7, .ref i8, .ref i9])), (i1, .inl (cI, ln, .inl ik)), (i2, .inl (cI, ln, .inl ic)), (i3, .inl (cI, ln, .inl ia)), (i4, .inl (cI, ln, .inl ib)), (i5, .inl (cI, ln, .inl if_)), (i6, .inl (cJ, (ln + 1), .inr (.inl iw))), (i7, .inl (cJ, (ln + 1), .inr (.inl is_))), (i8, .inl (cJ, (ln + 1), .inr (.inl ih))), (i9, .inl (cJ, (ln + 1), .inr (.inl ij)))] := hD
      have hw15 : r15 = kb_p (pm_wi u9) := hw15
      subst hw15
      refine lv_if_ne (tgt := 23) hx hb dd_K_cut_18 (by decide) (fun c18 => ?_) (fun c18 => ?_)
      · skip
        have c18 : pm_wi u9 := kb_1.mp c18
        refine lv_iload hx hb dd_K_cut_23 (lv_at hl 4 rfl) ?_
        refine lv_if_lt (tgt := 35) hx hb dd_K_cut_25 (by decide) (fun c25 => ?_) (fun c25 => ?_)
        · skip
          exact absurd c25 hy.2.2.2.1
        · skip
          refine lv_iload hx hb dd_K_cut_28 (lv_at hl 4 rfl) ?_
          refine lv_bipush (v := nI 7) hx hb dd_K_cut_30 (by decide) ?_
          refine lv_icmp_le (tgt := 37) hx hb dd_K_cut_32 (by decide) (fun c32 => ?_) (fun c32 => ?_)
          · skip
            refine lv_aload_n hx hb dd_K_cut_37 rfl (lv_at hl 0 rfl) ?_
            refine va_get (D := D) (ci := 1) (v := .ref t) (C := rr_K) (T := tt_K) (N := 4) hx hb hts hin1 hown hK hP 0 kg_11_0 rfl 1 (by decide) lk0 (fun _ h9 => h9) rfl dd_K_cut_38 ?_
            refine lv_iconst (v := nI 4) hx hb dd_K_cut_41 (by decide) ?_
            refine lv_iload_n hx hb dd_K_cut_42 rfl (lv_at hl 3 rfl) ?_
            refine kx_calli (wr := [(x, .inr (1, [.ref g, .ref t, .ref h, .ref o]))]) (va_runV (C := rr_It) (As := [.int (nI 4), .int u9]) (rest := []) ⟨hx, hb, hml, hown, hts⟩ (ct_It_append l D cI cJ cZ H.size t cn i1 i2 i3 i4 i5 i6 i7 i8 i9 ln ik ic ia ib if_ iw is_ ih ij (nI 4) u9 (by omega) (by omega) (by omega)) ⟨(callB_of 2 hts (kx_good kw_458) rfl rfl rfl (hts _ (kx_m kw_47)) (hts _ (kx_m kw_455)) (by decide +kernel) ⟨Nat.le_of_ble_eq_true rfl, Nat.le_of_ble_eq_true rfl⟩), (hts _ (kx_m kw_456)), (hts _ (kx_m kw_457))⟩ (kx_preV (ci := 4) (q0 := 0) hK hN (hP.sub [1, 2, 3, 4, 5, 6, 7, 8, 9, 10] kt_11_1_2_3_4_5_6_7_8_9_10) (hD.sub [1, 2, 3, 4, 5, 6, 7, 8, 9, 10] (by decide) ks_11_1_2_3_4_5_6_7_8_9_10) rfl kg_10_0) rfl rfl hl.1 rfl (lv_room (Nat.le_of_ble_eq_true rfl)) dd_K_cut_43 ⟨(by show 0 + (kg_c ln (cn + 1) 9) ≤ (kg_c ln (cn + 1) 9); first | exact Nat.le_refl _ | omega), (by show 0 + (kg_s ln (cn + 1) 4096 9 + kg_c ln (cn + 1) 4) ≤ (kg_s ln (cn + 1) 4096 9 + kg_c ln (cn + 1) 4); first | exact Nat.le_refl _ | omega)⟩) hP hD hS hA [1, 2, 3, 4, 5, 6, 7, 8, 9, 10] [0] ks_11_1_2_3_4_5_6_7_8_9_10 ks_11_0 (by decide) (by decide) (fun r43 u43 H locs hw43 hP hD hS => ?_)
            refine kx_bud (cells := kg_c ln (cn + 1) 9) (slots := kg_s ln (cn + 1) 4096 9 + kg_c ln (cn + 1) 4) ?_ (by omega) (by omega)
            obtain ⟨i12_43, i22_43, i32_43, i42_43, i52_43, i62_43, i72_43, i82_43, i92_43, ln2_43, ik2_43, ic2_43, ia2_43, ib2_43, if_2_43, iw2_43, is_2_43, ih2_43, ij2_43⟩ := u43
            have hP : va_P D vwCl [(x, .inr (1, [.ref g, .ref t, .ref h, .ref o])), (t, .inr (4, [.int (nI (cn + 1)), .ref i12_43, .ref i22_43, .ref i32_43, .ref i42_43, .ref i52_43, .ref i62_43, .ref i72_43, .ref i82_43, .ref i92_43])), (i12_43, .inl (cI, ln2_43, .inl ik2_43)), (i22_43, .inl (cI, ln2_43, .inl ic2_43)), (i32_43, .inl (cI, ln2_43, .inl ia2_43)), (i42_43, .inl (cI, ln2_43, .inl ib2_43)), (i52_43, .inl (cI, ln2_43, .inl if_2_43)), (i62_43, .inl (cJ, (ln2_43 + 1), .inr (.inl iw2_43))), (i72_43, .inl (cJ, (ln2_43 + 1), .inr (.inl is_2_43))), (i82_43, .inl (cJ, (ln2_43 + 1), .inr (.inl ih2_43))), (i92_43, .inl (cJ, (ln2_43 + 1), .inr (.inl ij2_43)))] H := hP
            have hD : va_D A [(x, .inr (1, [.ref g, .ref t, .ref h, .ref o])), (t, .inr (4, [.int (nI (cn + 1)), .ref i12_43, .ref i22_43, .ref i32_43, .ref i42_43, .ref i52_43, .ref i62_43, .ref i72_43, .ref i82_43, .ref i92_43])), (i12_43, .inl (cI, ln2_43, .inl ik2_43)), (i22_43, .inl (cI, ln2_43, .inl ic2_43)), (i32_43, .inl (cI, ln2_43, .inl ia2_43)), (i42_43, .inl (cI, ln2_43, .inl ib2_43)), (i52_43, .inl (cI, ln2_43, .inl if_2_43)), (i62_43, .inl (cJ, (ln2_43 + 1), .inr (.inl iw2_43))), (i72_43, .inl (cJ, (ln2_43 + 1), .inr (.inl is_2_43))), (i82_43, .inl (cJ, (ln2_43 + 1), .inr (.inl ih2_43))), (i92_43, .inl (cJ, (ln2_43 + 1), .inr (.inl ij2_43)))] := hD
            obtain ⟨rfl, hw43⟩ := hw43
            have hw43 : ln2_43 = kg_n ln (cn + 1) 4096 ∧ (∀ j, j < cn → ik2_43 j = ik j ∧ ic2_43 j = ic j ∧ ia2_43 j = ia j ∧ ib2_43 j = ib j ∧ if_2_43 j = if_ j) ∧ ik2_43 cn = (nI 4) ∧ (∀ j, j < cn + 1 → iw2_43 j = iw j ∧ is_2_43 j = is_ j ∧ ih2_43 j = ih j ∧ ij2_43 j = ij j) ∧ iw2_43 (cn + 1) = iw cn + u9.toInt64 ∧ is_2_43 (cn + 1) = is_ cn ∧ ih2_43 (cn + 1) = ih cn ∧ ij2_43 (cn + 1) = ij cn := hw43
            have hlnP : cn + 1 ≤ ln2_43 ∧ ln2_43 < 2 ^ 20 := by have h9 := hw43.1; rw [h9]; unfold kg_n; split <;> omega
            refine lv_istore (lv' := [(5, .int (nI cn)), (0, .ref x), (1, .int a9), (2, .int b9), (3, .int u9), (4, .int f9)]) hx hb dd_K_cut_46 hl (by decide) rfl (fun ls hl => ?_)
            refine lv_aload_n hx hb dd_K_cut_48 rfl (lv_at hl 1 rfl) ?_
            refine va_get (D := D) (ci := 1) (v := .ref t) (C := rr_K) (T := tt_K) (N := 4) hx hb hts hin1 hown hK hP 0 kg_11_0 rfl 1 (by decide) lk0 (fun _ h9 => h9) rfl dd_K_cut_49 ?_
            refine lv_iload hx hb dd_K_cut_52 (lv_at hl 0 rfl) ?_
            refine lv_iload_n hx hb dd_K_cut_54 rfl (lv_at hl 2 rfl) ?_
            refine lv_iload_n hx hb dd_K_cut_55 rfl (lv_at hl 3 rfl) ?_
            refine lv_iload hx hb dd_K_cut_56 (lv_at hl 5 rfl) ?_
            refine kx_callv (wr := [(x, .inr (1, [.ref g, .ref t, .ref h, .ref o])), (i12_43, .inl (cI, ln2_43, .inl ik2_43)), (i22_43, .inl (cI, ln2_43, .inl ic2_43)), (i62_43, .inl (cJ, (ln2_43 + 1), .inr (.inl iw2_43))), (i72_43, .inl (cJ, (ln2_43 + 1), .inr (.inl is_2_43))), (i82_43, .inl (cJ, (ln2_43 + 1), .inr (.inl ih2_43))), (i92_43, .inl (cJ, (ln2_43 + 1), .inr (.inl ij2_43)))]) (va_runV (C := rr_It) (As := [.int (nI cn), .int a9, .int b9, .int f9]) (rest := []) ⟨hx, hb, hml, hown, hts⟩ (ct_It_setCut l D cI cJ cZ H.size t (cn + 1) i12_43 i22_43 i32_43 i42_43 i52_43 i62_43 i72_43 i82_43 i92_43 ln2_43 ia2_43 ib2_43 if_2_43 cn a9 b9 f9 (by omega) (by omega) (by omega)) ⟨(callB_of 4 hts (kx_good kw_500) rfl rfl rfl (hts _ (kx_m kw_47)) (hts _ (kx_m kw_497)) (by decide +kernel) ⟨Nat.le_of_ble_eq_true rfl, Nat.le_of_ble_eq_true rfl⟩), (hts _ (kx_m kw_498)), (hts _ (kx_m kw_499))⟩ (kx_preV (ci := 4) (q0 := 0) hK hN (hP.sub [1, 4, 5, 6] kt_11_1_4_5_6) (hD.sub [1, 4, 5, 6] (by decide) ks_11_1_4_5_6) rfl kg_4_0) rfl rfl hl.1 rfl (lv_room (Nat.le_of_ble_eq_true rfl)) dd_K_cut_58 ⟨(by show (kg_c ln (cn + 1) 9) + 0 ≤ (kg_c ln (cn + 1) 9); first | exact Nat.le_refl _ | omega), (by show (kg_s ln (cn + 1) 4096 9 + kg_c ln (cn + 1) 4) + 0 ≤ (kg_s ln (cn + 1) 4096 9 + kg_c ln (cn + 1) 4); first | exact Nat.le_refl _ | omega)⟩) hP hD hS hA [1, 4, 5, 6] [0, 2, 3, 7, 8, 9, 10] ks_11_1_4_5_6 ks_11_0_2_3_7_8_9_10 (by decide) (by decide) (fun u58 H locs hw58 hP hD hS => ?_)
            refine kx_bud (cells := kg_c ln (cn + 1) 9) (slots := kg_s ln (cn + 1) 4096 9 + kg_c ln (cn + 1) 4) ?_ (by omega) (by omega)
            have hP : va_P D vwCl [(x, .inr (1, [.ref g, .ref t, .ref h, .ref o])), (i12_43, .inl (cI, ln2_43, .inl ik2_43)), (i22_43, .inl (cI, ln2_43, .inl ic2_43)), (i62_43, .inl (cJ, (ln2_43 + 1), .inr (.inl iw2_43))), (i72_43, .inl (cJ, (ln2_43 + 1), .inr (.inl is_2_43))), (i82_43, .inl (cJ, (ln2_43 + 1), .inr (.inl ih2_43))), (i92_43, .inl (cJ, (ln2_43 + 1), .inr (.inl ij2_43))), (t, .inr (4, [.int (nI (cn + 1)), .ref i12_43, .ref i22_43, .ref i32_43, .ref i42_43, .ref i52_43, .ref i62_43, .ref i72_43, .ref i82_43, .ref i92_43])), (i32_43, .inl (cI, ln2_43, .inl (upd ia2_43 cn a9))), (i42_43, .inl (cI, ln2_43, .inl (upd ib2_43 cn b9))), (i52_43, .inl (cI, ln2_43, .inl (upd if_2_43 cn f9)))] H := hP
            have hD : va_D A [(x, .inr (1, [.ref g, .ref t, .ref h, .ref o])), (i12_43, .inl (cI, ln2_43, .inl ik2_43)), (i22_43, .inl (cI, ln2_43, .inl ic2_43)), (i62_43, .inl (cJ, (ln2_43 + 1), .inr (.inl iw2_43))), (i72_43, .inl (cJ, (ln2_43 + 1), .inr (.inl is_2_43))), (i82_43, .inl (cJ, (ln2_43 + 1), .inr (.inl ih2_43))), (i92_43, .inl (cJ, (ln2_43 + 1), .inr (.inl ij2_43))), (t, .inr (4, [.int (nI (cn + 1)), .ref i12_43, .ref i22_43, .ref i32_43, .ref i42_43, .ref i52_43, .ref i62_43, .ref i72_43, .ref i82_43, .ref i92_43])), (i32_43, .inl (cI, ln2_43, .inl (upd ia2_43 cn a9))), (i42_43, .inl (cI, ln2_43, .inl (upd ib2_43 cn b9))), (i52_43, .inl (cI, ln2_43, .inl (upd if_2_43 cn f9)))] := hD
            have hP : va_P D vwCl [(x, .inr (1, [.ref g, .ref t, .ref h, .ref o])), (t, .inr (4, [.int (nI (cn + 1)), .ref i12_43, .ref i22_43, .ref i32_43, .ref i42_43, .ref i52_43, .ref i62_43, .ref i72_43, .ref i82_43, .ref i92_43])), (i12_43, .inl (cI, ln2_43, .inl ik2_43)), (i22_43, .inl (cI, ln2_43, .inl ic2_43)), (i32_43, .inl (cI, ln2_43, .inl (upd ia2_43 cn a9))), (i42_43, .inl (cI, ln2_43, .inl (upd ib2_43 cn b9))), (i52_43, .inl (cI, ln2_43, .inl (upd if_2_43 cn f9))), (i62_43, .inl (cJ, (ln2_43 + 1), .inr (.inl iw2_43))), (i72_43, .inl (cJ, (ln2_43 + 1), .inr (.inl is_2_43))), (i82_43, .inl (cJ, (ln2_43 + 1), .inr (.inl ih2_43))), (i92_43, .inl (cJ, (ln2_43 + 1), .inr (.inl ij2_43)))] H := hP.sub [0, 7, 1, 2, 8, 9, 10, 3, 4, 5, 6] kt_11_0_7_1_2_8_9_10_3_4_5_6
            have hD : va_D A [(x, .inr (1, [.ref g, .ref t, .ref h, .ref o])), (t, .inr (4, [.int (nI (cn + 1)), .ref i12_43, .ref i22_43, .ref i32_43, .ref i42_43, .ref i52_43, .ref i62_43, .ref i72_43, .ref i82_43, .ref i92_43])), (i12_43, .inl (cI, ln2_43, .inl ik2_43)), (i22_43, .inl (cI, ln2_43, .inl ic2_43)), (i32_43, .inl (cI, ln2_43, .inl (upd ia2_43 cn a9))), (i42_43, .inl (cI, ln2_43, .inl (upd ib2_43 cn b9))), (i52_43, .inl (cI, ln2_43, .inl (upd if_2_43 cn f9))), (i62_43, .inl (cJ, (ln2_43 + 1), .inr (.inl iw2_43))), (i72_43, .inl (cJ, (ln2_43 + 1), .inr (.inl is_2_43))), (i82_43, .inl (cJ, (ln2_43 + 1), .inr (.inl ih2_43))), (i92_43, .inl (cJ, (ln2_43 + 1), .inr (.inl ij2_43)))] := hD.sub [0, 7, 1, 2, 8, 9, 10, 3, 4, 5, 6] (by decide) ks_11_0_7_1_2_8_9_10_3_4_5_6
            refine lv_iload hx hb dd_K_cut_61 (lv_at hl 0 rfl) ?_
            rw [hQ]
            refine kx_widen (k := kg_c ln (cn + 1) 9) (n := kg_s ln (cn + 1) 4096 9 + kg_c ln (cn + 1) 4) (Nat.le_refl _) (Nat.le_refl _) ?_
            exact kx_iret hx hb hr hlocks hK hN hS dd_K_cut_63 (i12_43, i22_43, i32_43, i42_43, i52_43, i62_43, i72_43, i82_43, i92_43, ln2_43, ik2_43, ic2_43, upd ia2_43 cn a9, upd ib2_43 cn b9, upd if_2_43 cn f9, iw2_43, is_2_43, ih2_43, ij2_43) hP hD (kf_cut hw43)
          · skip
            exact absurd (Int32.not_lt.mp hy.2.2.2.2) c32
      · skip
        have c18 : ¬ (pm_wi u9) := kb_0.mp c18
        exact absurd hy.2.2.1 c18


set_option maxHeartbeats 4000000 in
set_option maxRecDepth 100000 in
theorem ct_K_cut_n (l : Launch) (D : va_G) (cI cJ cZ : ClassId) (sz : Nat) (x : Nat) (g : Nat) (t : Nat) (h : Nat) (o : Nat) (cn : Nat) (i1 : Nat) (i2 : Nat) (i3 : Nat) (i4 : Nat) (i5 : Nat) (i6 : Nat) (i7 : Nat) (i8 : Nat) (i9 : Nat) (ln : Nat) (ik : Nat → Int32) (ic : Nat → Int32) (ia : Nat → Int32) (ib : Nat → Int32) (if_ : Nat → Int32) (iw : Nat → Int64) (is_ : Nat → Int64) (ih : Nat → Int64) (ij : Nat → Int64) (a9 : Int32) (b9 : Int32) (u9 : Int32) (f9 : Int32) (hno : ¬ (pm_cu a9 b9 u9 f9 ∧ cn < 4096)) (h2 : cn < 2 ^ 20) (h3 : cn ≤ ln) (h4 : ln < 2 ^ 30) : kx_Mi l yy_K_cut ww_K_cut ({ frames := 1, cells := 0, slots := 0, locals := 24 }) D vwCl (kx_ty cI cJ cZ) [.ref x, .int a9, .int b9, .int u9, .int f9] [(x, .inr (1, [.ref g, .ref t, .ref h, .ref o])), (t, .inr (4, [.int (nI cn), .ref i1, .ref i2, .ref i3, .ref i4, .ref i5, .ref i6, .ref i7, .ref i8, .ref i9])), (i1, .inl (cI, ln, .inl ik)), (i2, .inl (cI, ln, .inl ic)), (i3, .inl (cI, ln, .inl ia)), (i4, .inl (cI, ln, .inl ib)), (i5, .inl (cI, ln, .inl if_)), (i6, .inl (cJ, (ln + 1), .inr (.inl iw))), (i7, .inl (cJ, (ln + 1), .inr (.inl is_))), (i8, .inl (cJ, (ln + 1), .inr (.inl ih))), (i9, .inl (cJ, (ln + 1), .inr (.inl ij)))] sz (fun (r : Int32) (u : Unit) => r = (-1)) (fun (u : Unit) => [(x, .inr (1, [.ref g, .ref t, .ref h, .ref o])), (t, .inr (4, [.int (nI cn), .ref i1, .ref i2, .ref i3, .ref i4, .ref i5, .ref i6, .ref i7, .ref i8, .ref i9])), (i1, .inl (cI, ln, .inl ik)), (i2, .inl (cI, ln, .inl ic)), (i3, .inl (cI, ln, .inl ia)), (i4, .inl (cI, ln, .inl ib)), (i5, .inl (cI, ln, .inl if_)), (i6, .inl (cJ, (ln + 1), .inr (.inl iw))), (i7, .inl (cJ, (ln + 1), .inr (.inl is_))), (i8, .inl (cJ, (ln + 1), .inr (.inl ih))), (i9, .inl (cJ, (ln + 1), .inr (.inl ij)))]) 0 0 := by
  refine kx_starti (by decide) rfl (Nat.le_of_ble_eq_true rfl) ?_
  intro p e s m below meth c A ls hx hb hr hml hts hown hlocks hin hP hK hN hD hA hS hl
  have hl : lv_has ls 6 [(0, .ref x), (1, .int a9), (2, .int b9), (3, .int u9), (4, .int f9)] := hl
  have hown : s.vm.findClass rr_K = some m.cls := hown
  have lk0 := hts _ (kx_m kw_387)
  have hin1 : ∀ w ∈ u_ws rr_K tt_K 4, w ∈ ww_K_cut := fun w h => kx_m (kf_K w h)
  obtain ⟨H, hH⟩ : ∃ H, H = s.heap := ⟨_, rfl⟩
  obtain ⟨locs, hlocs⟩ : ∃ z : List Loc, z = [] := ⟨_, rfl⟩
  have hP : va_P D vwCl [(x, .inr (1, [.ref g, .ref t, .ref h, .ref o])), (t, .inr (4, [.int (nI cn), .ref i1, .ref i2, .ref i3, .ref i4, .ref i5, .ref i6, .ref i7, .ref i8, .ref i9])), (i1, .inl (cI, ln, .inl ik)), (i2, .inl (cI, ln, .inl ic)), (i3, .inl (cI, ln, .inl ia)), (i4, .inl (cI, ln, .inl ib)), (i5, .inl (cI, ln, .inl if_)), (i6, .inl (cJ, (ln + 1), .inr (.inl iw))), (i7, .inl (cJ, (ln + 1), .inr (.inl is_))), (i8, .inl (cJ, (ln + 1), .inr (.inl ih))), (i9, .inl (cJ, (ln + 1), .inr (.inl ij)))] H := by rw [hH]; exact hP
  have hS : va_S A s.heap H locs := by rw [hH, hlocs]; exact hS
  refine kx_gen hH hlocs ?_
  clear hH hlocs
  refine kx_nameQ (fun Q hQ => ?_)
  refine lv_iload_n hx hb dd_K_cut_0 rfl (lv_at hl 1 rfl) ?_
  refine kx_calli (wr := [(x, .inr (1, [.ref g, .ref t, .ref h, .ref o])), (t, .inr (4, [.int (nI cn), .ref i1, .ref i2, .ref i3, .ref i4, .ref i5, .ref i6, .ref i7, .ref i8, .ref i9])), (i1, .inl (cI, ln, .inl ik)), (i2, .inl (cI, ln, .inl ic)), (i3, .inl (cI, ln, .inl ia)), (i4, .inl (cI, ln, .inl ib)), (i5, .inl (cI, ln, .inl if_)), (i6, .inl (cJ, (ln + 1), .inr (.inl iw))), (i7, .inl (cJ, (ln + 1), .inr (.inl is_))), (i8, .inl (cJ, (ln + 1), .inr (.inl ih))), (i9, .inl (cJ, (ln + 1), .inr (.inl ij)))]) (va_runS (As := [.int a9]) (rest := []) ⟨hx, hb, hml, hown, hts⟩ (ct_K_isWidth l D cI cJ cZ H.size a9) ⟨(callB_of 1 hts (kx_good kw_410) rfl rfl rfl (hts _ (kx_m kw_44)) (hts _ (kx_m kw_408)) (by decide +kernel) ⟨Nat.le_of_ble_eq_true rfl, Nat.le_of_ble_eq_true rfl⟩), (hts _ (kx_m kw_409))⟩ (kx_preS hK hN (hP.sub [] kt_11_) (hD.sub [] (by decide) ks_11_)) rfl rfl hl.1 rfl (lv_room (Nat.le_of_ble_eq_true rfl)) dd_K_cut_1 ⟨Nat.le_of_ble_eq_true rfl, Nat.le_of_ble_eq_true rfl⟩) hP hD hS hA [] [0, 1, 2, 3, 4, 5, 6, 7, 8, 9, 10] ks_11_ ks_11_0_1_2_3_4_5_6_7_8_9_10 (by decide) (by decide) (fun r1 u1 H locs hw1 hP hD hS => ?_)
  have hP : va_P D vwCl [(x, .inr (1, [.ref g, .ref t, .ref h, .ref o])), (t, .inr (4, [.int (nI cn), .ref i1, .ref i2, .ref i3, .ref i4, .ref i5, .ref i6, .ref i7, .ref i8, .ref i9])), (i1, .inl (cI, ln, .inl ik)), (i2, .inl (cI, ln, .inl ic)), (i3, .inl (cI, ln, .inl ia)), (i4, .inl (cI, ln, .inl ib)), (i5, .inl (cI, ln, .inl if_)), (i6, .inl (cJ, (ln + 1), .inr (.inl iw))), (i7, .inl (cJ, (ln + 1), .inr (.inl is_))), (i8, .inl (cJ, (ln + 1), .inr (.inl ih))), (i9, .inl (cJ, (ln + 1), .inr (.inl ij)))] H := hP
  have hD : va_D A [(x, .inr (1, [.ref g, .ref t, .ref h, .ref o])), (t, .inr (4, [.int (nI cn), .ref i1, .ref i2, .ref i3, .ref i4, .ref i5, .ref i6, .ref i7, .ref i8, .ref i9])), (i1, .inl (cI, ln, .inl ik)), (i2, .inl (cI, ln, .inl ic)), (i3, .inl (cI, ln, .inl ia)), (i4, .inl (cI, ln, .inl ib)), (i5, .inl (cI, ln, .inl if_)), (i6, .inl (cJ, (ln + 1), .inr (.inl iw))), (i7, .inl (cJ, (ln + 1), .inr (.inl is_))), (i8, .inl (cJ, (ln + 1), .inr (.inl ih))), (i9, .inl (cJ, (ln + 1), .inr (.inl ij)))] := hD
  have hw1 : r1 = kb_p (pm_wi a9) := hw1
  subst hw1
  refine lv_if_eq (tgt := 21) hx hb dd_K_cut_4 (by decide) (fun c4 => ?_) (fun c4 => ?_)
  · skip
    have c4 : ¬ (pm_wi a9) := kb_0.mp c4
    refine lv_iconst (v := (-1)) hx hb dd_K_cut_21 (by decide) ?_
    rw [hQ]
    exact kx_iret hx hb hr hlocks hK hN hS dd_K_cut_22 () hP hD rfl
  · skip
    have c4 : pm_wi a9 := kb_1.mp c4
    refine lv_iload_n hx hb dd_K_cut_7 rfl (lv_at hl 2 rfl) ?_
    refine kx_calli (wr := [(x, .inr (1, [.ref g, .ref t, .ref h, .ref o])), (t, .inr (4, [.int (nI cn), .ref i1, .ref i2, .ref i3, .ref i4, .ref i5, .ref i6, .ref i7, .ref i8, .ref i9])), (i1, .inl (cI, ln, .inl ik)), (i2, .inl (cI, ln, .inl ic)), (i3, .inl (cI, ln, .inl ia)), (i4, .inl (cI, ln, .inl ib)), (i5, .inl (cI, ln, .inl if_)), (i6, .inl (cJ, (ln + 1), .inr (.inl iw))), (i7, .inl (cJ, (ln + 1), .inr (.inl is_))), (i8, .inl (cJ, (ln + 1), .inr (.inl ih))), (i9, .inl (cJ, (ln + 1), .inr (.inl ij)))]) (va_runS (As := [.int b9]) (rest := []) ⟨hx, hb, hml, hown, hts⟩ (ct_K_isWidth l D cI cJ cZ H.size b9) ⟨(callB_of 1 hts (kx_good kw_410) rfl rfl rfl (hts _ (kx_m kw_44)) (hts _ (kx_m kw_408)) (by decide +kernel) ⟨Nat.le_of_ble_eq_true rfl, Nat.le_of_ble_eq_true rfl⟩), (hts _ (kx_m kw_409))⟩ (kx_preS hK hN (hP.sub [] kt_11_) (hD.sub [] (by decide) ks_11_)) rfl rfl hl.1 rfl (lv_room (Nat.le_of_ble_eq_true rfl)) dd_K_cut_8 ⟨Nat.le_of_ble_eq_true rfl, Nat.le_of_ble_eq_true rfl⟩) hP hD hS hA [] [0, 1, 2, 3, 4, 5, 6, 7, 8, 9, 10] ks_11_ ks_11_0_1_2_3_4_5_6_7_8_9_10 (by decide) (by decide) (fun r8 u8 H locs hw8 hP hD hS => ?_)
    have hP : va_P D vwCl [(x, .inr (1, [.ref g, .ref t, .ref h, .ref o])), (t, .inr (4, [.int (nI cn), .ref i1, .ref i2, .ref i3, .ref i4, .ref i5, .ref i6, .ref i7, .ref i8, .ref i9])), (i1, .inl (cI, ln, .inl ik)), (i2, .inl (cI, ln, .inl ic)), (i3, .inl (cI, ln, .inl ia)), (i4, .inl (cI, ln, .inl ib)), (i5, .inl (cI, ln, .inl if_)), (i6, .inl (cJ, (ln + 1), .inr (.inl iw))), (i7, .inl (cJ, (ln + 1), .inr (.inl is_))), (i8, .inl (cJ, (ln + 1), .inr (.inl ih))), (i9, .inl (cJ, (ln + 1), .inr (.inl ij)))] H := hP
    have hD : va_D A [(x, .inr (1, [.ref g, .ref t, .ref h, .ref o])), (t, .inr (4, [.int (nI cn), .ref i1, .ref i2, .ref i3, .ref i4, .ref i5, .ref i6, .ref i7, .ref i8, .ref i9])), (i1, .inl (cI, ln, .inl ik)), (i2, .inl (cI, ln, .inl ic)), (i3, .inl (cI, ln, .inl ia)), (i4, .inl (cI, ln, .inl ib)), (i5, .inl (cI, ln, .inl if_)), (i6, .inl (cJ, (ln + 1), .inr (.inl iw))), (i7, .inl (cJ, (ln + 1), .inr (.inl is_))), (i8, .inl (cJ, (ln + 1), .inr (.inl ih))), (i9, .inl (cJ, (ln + 1), .inr (.inl ij)))] := hD
    have hw8 : r8 = kb_p (pm_wi b9) := hw8
    subst hw8
    refine lv_if_eq (tgt := 21) hx hb dd_K_cut_11 (by decide) (fun c11 => ?_) (fun c11 => ?_)
    · skip
      have c11 : ¬ (pm_wi b9) := kb_0.mp c11
      refine lv_iconst (v := (-1)) hx hb dd_K_cut_21 (by decide) ?_
      rw [hQ]
      exact kx_iret hx hb hr hlocks hK hN hS dd_K_cut_22 () hP hD rfl
    · skip
      have c11 : pm_wi b9 := kb_1.mp c11
      refine lv_iload_n hx hb dd_K_cut_14 rfl (lv_at hl 3 rfl) ?_
      refine kx_calli (wr := [(x, .inr (1, [.ref g, .ref t, .ref h, .ref o])), (t, .inr (4, [.int (nI cn), .ref i1, .ref i2, .ref i3, .ref i4, .ref i5, .ref i6, .ref i7, .ref i8, .ref i9])), (i1, .inl (cI, ln, .inl ik)), (i2, .inl (cI, ln, .inl ic)), (i3, .inl (cI, ln, .inl ia)), (i4, .inl (cI, ln, .inl ib)), (i5, .inl (cI, ln, .inl if_)), (i6, .inl (cJ, (ln + 1), .inr (.inl iw))), (i7, .inl (cJ, (ln + 1), .inr (.inl is_))), (i8, .inl (cJ, (ln + 1), .inr (.inl ih))), (i9, .inl (cJ, (ln + 1), .inr (.inl ij)))]) (va_runS (As := [.int u9]) (rest := []) ⟨hx, hb, hml, hown, hts⟩ (ct_K_isWidth l D cI cJ cZ H.size u9) ⟨(callB_of 1 hts (kx_good kw_410) rfl rfl rfl (hts _ (kx_m kw_44)) (hts _ (kx_m kw_408)) (by decide +kernel) ⟨Nat.le_of_ble_eq_true rfl, Nat.le_of_ble_eq_true rfl⟩), (hts _ (kx_m kw_409))⟩ (kx_preS hK hN (hP.sub [] kt_11_) (hD.sub [] (by decide) ks_11_)) rfl rfl hl.1 rfl (lv_room (Nat.le_of_ble_eq_true rfl)) dd_K_cut_15 ⟨Nat.le_of_ble_eq_true rfl, Nat.le_of_ble_eq_true rfl⟩) hP hD hS hA [] [0, 1, 2, 3, 4, 5, 6, 7, 8, 9, 10] ks_11_ ks_11_0_1_2_3_4_5_6_7_8_9_10 (by decide) (by decide) (fun r15 u15 H locs hw15 hP hD hS => ?_)
      have hP : va_P D vwCl [(x, .inr (1, [.ref g, .ref t, .ref h, .ref o])), (t, .inr (4, [.int (nI cn), .ref i1, .ref i2, .ref i3, .ref i4, .ref i5, .ref i6, .ref i7, .ref i8, .ref i9])), (i1, .inl (cI, ln, .inl ik)), (i2, .inl (cI, ln, .inl ic)), (i3, .inl (cI, ln, .inl ia)), (i4, .inl (cI, ln, .inl ib)), (i5, .inl (cI, ln, .inl if_)), (i6, .inl (cJ, (ln + 1), .inr (.inl iw))), (i7, .inl (cJ, (ln + 1), .inr (.inl is_))), (i8, .inl (cJ, (ln + 1), .inr (.inl ih))), (i9, .inl (cJ, (ln + 1), .inr (.inl ij)))] H := hP
      have hD : va_D A [(x, .inr (1, [.ref g, .ref t, .ref h, .ref o])), (t, .inr (4, [.int (nI cn), .ref i1, .ref i2, .ref i3, .ref i4, .ref i5, .ref i6, .ref i7, .ref i8, .ref i9])), (i1, .inl (cI, ln, .inl ik)), (i2, .inl (cI, ln, .inl ic)), (i3, .inl (cI, ln, .inl ia)), (i4, .inl (cI, ln, .inl ib)), (i5, .inl (cI, ln, .inl if_)), (i6, .inl (cJ, (ln + 1), .inr (.inl iw))), (i7, .inl (cJ, (ln + 1), .inr (.inl is_))), (i8, .inl (cJ, (ln + 1), .inr (.inl ih))), (i9, .inl (cJ, (ln + 1), .inr (.inl ij)))] := hD
      have hw15 : r15 = kb_p (pm_wi u9) := hw15
      subst hw15
      refine lv_if_ne (tgt := 23) hx hb dd_K_cut_18 (by decide) (fun c18 => ?_) (fun c18 => ?_)
      · skip
        have c18 : pm_wi u9 := kb_1.mp c18
        refine lv_iload hx hb dd_K_cut_23 (lv_at hl 4 rfl) ?_
        refine lv_if_lt (tgt := 35) hx hb dd_K_cut_25 (by decide) (fun c25 => ?_) (fun c25 => ?_)
        · skip
          refine lv_iconst (v := (-1)) hx hb dd_K_cut_35 (by decide) ?_
          rw [hQ]
          exact kx_iret hx hb hr hlocks hK hN hS dd_K_cut_36 () hP hD rfl
        · skip
          refine lv_iload hx hb dd_K_cut_28 (lv_at hl 4 rfl) ?_
          refine lv_bipush (v := nI 7) hx hb dd_K_cut_30 (by decide) ?_
          refine lv_icmp_le (tgt := 37) hx hb dd_K_cut_32 (by decide) (fun c32 => ?_) (fun c32 => ?_)
          · skip
            refine lv_aload_n hx hb dd_K_cut_37 rfl (lv_at hl 0 rfl) ?_
            refine va_get (D := D) (ci := 1) (v := .ref t) (C := rr_K) (T := tt_K) (N := 4) hx hb hts hin1 hown hK hP 0 kg_11_0 rfl 1 (by decide) lk0 (fun _ h9 => h9) rfl dd_K_cut_38 ?_
            refine lv_iconst (v := nI 4) hx hb dd_K_cut_41 (by decide) ?_
            refine lv_iload_n hx hb dd_K_cut_42 rfl (lv_at hl 3 rfl) ?_
            refine kx_calli (wr := [(x, .inr (1, [.ref g, .ref t, .ref h, .ref o]))]) (va_runV (C := rr_It) (As := [.int (nI 4), .int u9]) (rest := []) ⟨hx, hb, hml, hown, hts⟩ (ct_It_append_f l D cI cJ cZ H.size t cn i1 i2 i3 i4 i5 i6 i7 i8 i9 ln ik ic ia ib if_ iw is_ ih ij (nI 4) u9 (Nat.le_of_not_lt (fun q => hno ⟨⟨c4, c11, c18, c25, Int32.not_lt.mpr c32⟩, q⟩)) (by omega)) ⟨(callB_of 2 hts (kx_good kw_458) rfl rfl rfl (hts _ (kx_m kw_47)) (hts _ (kx_m kw_455)) (by decide +kernel) ⟨Nat.le_of_ble_eq_true rfl, Nat.le_of_ble_eq_true rfl⟩), (hts _ (kx_m kw_456)), (hts _ (kx_m kw_457))⟩ (kx_preV (ci := 4) (q0 := 0) hK hN (hP.sub [1, 2, 3, 4, 5, 6, 7, 8, 9, 10] kt_11_1_2_3_4_5_6_7_8_9_10) (hD.sub [1, 2, 3, 4, 5, 6, 7, 8, 9, 10] (by decide) ks_11_1_2_3_4_5_6_7_8_9_10) rfl kg_10_0) rfl rfl hl.1 rfl (lv_room (Nat.le_of_ble_eq_true rfl)) dd_K_cut_43 ⟨Nat.le_of_ble_eq_true rfl, Nat.le_of_ble_eq_true rfl⟩) hP hD hS hA [1, 2, 3, 4, 5, 6, 7, 8, 9, 10] [0] ks_11_1_2_3_4_5_6_7_8_9_10 ks_11_0 (by decide) (by decide) (fun r43 u43 H locs hw43 hP hD hS => ?_)
            have hP : va_P D vwCl [(x, .inr (1, [.ref g, .ref t, .ref h, .ref o])), (t, .inr (4, [.int (nI cn), .ref i1, .ref i2, .ref i3, .ref i4, .ref i5, .ref i6, .ref i7, .ref i8, .ref i9])), (i1, .inl (cI, ln, .inl ik)), (i2, .inl (cI, ln, .inl ic)), (i3, .inl (cI, ln, .inl ia)), (i4, .inl (cI, ln, .inl ib)), (i5, .inl (cI, ln, .inl if_)), (i6, .inl (cJ, (ln + 1), .inr (.inl iw))), (i7, .inl (cJ, (ln + 1), .inr (.inl is_))), (i8, .inl (cJ, (ln + 1), .inr (.inl ih))), (i9, .inl (cJ, (ln + 1), .inr (.inl ij)))] H := hP
            have hD : va_D A [(x, .inr (1, [.ref g, .ref t, .ref h, .ref o])), (t, .inr (4, [.int (nI cn), .ref i1, .ref i2, .ref i3, .ref i4, .ref i5, .ref i6, .ref i7, .ref i8, .ref i9])), (i1, .inl (cI, ln, .inl ik)), (i2, .inl (cI, ln, .inl ic)), (i3, .inl (cI, ln, .inl ia)), (i4, .inl (cI, ln, .inl ib)), (i5, .inl (cI, ln, .inl if_)), (i6, .inl (cJ, (ln + 1), .inr (.inl iw))), (i7, .inl (cJ, (ln + 1), .inr (.inl is_))), (i8, .inl (cJ, (ln + 1), .inr (.inl ih))), (i9, .inl (cJ, (ln + 1), .inr (.inl ij)))] := hD
            have hw43 : r43 = (-1) := hw43
            subst hw43
            refine lv_istore (lv' := [(5, .int (-1)), (0, .ref x), (1, .int a9), (2, .int b9), (3, .int u9), (4, .int f9)]) hx hb dd_K_cut_46 hl (by decide) rfl (fun ls hl => ?_)
            refine lv_aload_n hx hb dd_K_cut_48 rfl (lv_at hl 1 rfl) ?_
            refine va_get (D := D) (ci := 1) (v := .ref t) (C := rr_K) (T := tt_K) (N := 4) hx hb hts hin1 hown hK hP 0 kg_11_0 rfl 1 (by decide) lk0 (fun _ h9 => h9) rfl dd_K_cut_49 ?_
            refine lv_iload hx hb dd_K_cut_52 (lv_at hl 0 rfl) ?_
            refine lv_iload_n hx hb dd_K_cut_54 rfl (lv_at hl 2 rfl) ?_
            refine lv_iload_n hx hb dd_K_cut_55 rfl (lv_at hl 3 rfl) ?_
            refine lv_iload hx hb dd_K_cut_56 (lv_at hl 5 rfl) ?_
            refine kx_callv (wr := [(x, .inr (1, [.ref g, .ref t, .ref h, .ref o])), (i1, .inl (cI, ln, .inl ik)), (i2, .inl (cI, ln, .inl ic)), (i6, .inl (cJ, (ln + 1), .inr (.inl iw))), (i7, .inl (cJ, (ln + 1), .inr (.inl is_))), (i8, .inl (cJ, (ln + 1), .inr (.inl ih))), (i9, .inl (cJ, (ln + 1), .inr (.inl ij)))]) (va_runV (C := rr_It) (As := [.int (-1), .int a9, .int b9, .int f9]) (rest := []) ⟨hx, hb, hml, hown, hts⟩ (ct_It_setCut_n l D cI cJ cZ H.size t cn i1 i2 i3 i4 i5 i6 i7 i8 i9 ln ia ib if_ a9 b9 f9 (by omega) (by omega)) ⟨(callB_of 4 hts (kx_good kw_500) rfl rfl rfl (hts _ (kx_m kw_47)) (hts _ (kx_m kw_497)) (by decide +kernel) ⟨Nat.le_of_ble_eq_true rfl, Nat.le_of_ble_eq_true rfl⟩), (hts _ (kx_m kw_498)), (hts _ (kx_m kw_499))⟩ (kx_preV (ci := 4) (q0 := 0) hK hN (hP.sub [1, 4, 5, 6] kt_11_1_4_5_6) (hD.sub [1, 4, 5, 6] (by decide) ks_11_1_4_5_6) rfl kg_4_0) rfl rfl hl.1 rfl (lv_room (Nat.le_of_ble_eq_true rfl)) dd_K_cut_58 ⟨Nat.le_of_ble_eq_true rfl, Nat.le_of_ble_eq_true rfl⟩) hP hD hS hA [1, 4, 5, 6] [0, 2, 3, 7, 8, 9, 10] ks_11_1_4_5_6 ks_11_0_2_3_7_8_9_10 (by decide) (by decide) (fun u58 H locs hw58 hP hD hS => ?_)
            have hP : va_P D vwCl [(x, .inr (1, [.ref g, .ref t, .ref h, .ref o])), (i1, .inl (cI, ln, .inl ik)), (i2, .inl (cI, ln, .inl ic)), (i6, .inl (cJ, (ln + 1), .inr (.inl iw))), (i7, .inl (cJ, (ln + 1), .inr (.inl is_))), (i8, .inl (cJ, (ln + 1), .inr (.inl ih))), (i9, .inl (cJ, (ln + 1), .inr (.inl ij))), (t, .inr (4, [.int (nI cn), .ref i1, .ref i2, .ref i3, .ref i4, .ref i5, .ref i6, .ref i7, .ref i8, .ref i9])), (i3, .inl (cI, ln, .inl ia)), (i4, .inl (cI, ln, .inl ib)), (i5, .inl (cI, ln, .inl if_))] H := hP
            have hD : va_D A [(x, .inr (1, [.ref g, .ref t, .ref h, .ref o])), (i1, .inl (cI, ln, .inl ik)), (i2, .inl (cI, ln, .inl ic)), (i6, .inl (cJ, (ln + 1), .inr (.inl iw))), (i7, .inl (cJ, (ln + 1), .inr (.inl is_))), (i8, .inl (cJ, (ln + 1), .inr (.inl ih))), (i9, .inl (cJ, (ln + 1), .inr (.inl ij))), (t, .inr (4, [.int (nI cn), .ref i1, .ref i2, .ref i3, .ref i4, .ref i5, .ref i6, .ref i7, .ref i8, .ref i9])), (i3, .inl (cI, ln, .inl ia)), (i4, .inl (cI, ln, .inl ib)), (i5, .inl (cI, ln, .inl if_))] := hD
            have hP : va_P D vwCl [(x, .inr (1, [.ref g, .ref t, .ref h, .ref o])), (t, .inr (4, [.int (nI cn), .ref i1, .ref i2, .ref i3, .ref i4, .ref i5, .ref i6, .ref i7, .ref i8, .ref i9])), (i1, .inl (cI, ln, .inl ik)), (i2, .inl (cI, ln, .inl ic)), (i3, .inl (cI, ln, .inl ia)), (i4, .inl (cI, ln, .inl ib)), (i5, .inl (cI, ln, .inl if_)), (i6, .inl (cJ, (ln + 1), .inr (.inl iw))), (i7, .inl (cJ, (ln + 1), .inr (.inl is_))), (i8, .inl (cJ, (ln + 1), .inr (.inl ih))), (i9, .inl (cJ, (ln + 1), .inr (.inl ij)))] H := hP.sub [0, 7, 1, 2, 8, 9, 10, 3, 4, 5, 6] kt_11_0_7_1_2_8_9_10_3_4_5_6
            have hD : va_D A [(x, .inr (1, [.ref g, .ref t, .ref h, .ref o])), (t, .inr (4, [.int (nI cn), .ref i1, .ref i2, .ref i3, .ref i4, .ref i5, .ref i6, .ref i7, .ref i8, .ref i9])), (i1, .inl (cI, ln, .inl ik)), (i2, .inl (cI, ln, .inl ic)), (i3, .inl (cI, ln, .inl ia)), (i4, .inl (cI, ln, .inl ib)), (i5, .inl (cI, ln, .inl if_)), (i6, .inl (cJ, (ln + 1), .inr (.inl iw))), (i7, .inl (cJ, (ln + 1), .inr (.inl is_))), (i8, .inl (cJ, (ln + 1), .inr (.inl ih))), (i9, .inl (cJ, (ln + 1), .inr (.inl ij)))] := hD.sub [0, 7, 1, 2, 8, 9, 10, 3, 4, 5, 6] (by decide) ks_11_0_7_1_2_8_9_10_3_4_5_6
            refine lv_iload hx hb dd_K_cut_61 (lv_at hl 0 rfl) ?_
            rw [hQ]
            exact kx_iret hx hb hr hlocks hK hN hS dd_K_cut_63 () hP hD rfl
          · skip
            refine lv_iconst (v := (-1)) hx hb dd_K_cut_35 (by decide) ?_
            rw [hQ]
            exact kx_iret hx hb hr hlocks hK hN hS dd_K_cut_36 () hP hD rfl
      · skip
        have c18 : ¬ (pm_wi u9) := kb_0.mp c18
        refine lv_iconst (v := (-1)) hx hb dd_K_cut_21 (by decide) ?_
        rw [hQ]
        exact kx_iret hx hb hr hlocks hK hN hS dd_K_cut_22 () hP hD rfl
