/-! the class's leaves -/
theorem kn_max {x y : Nat} (hx : x < 2 ^ 31) (hy : y < 2 ^ 31) : (if nI x < nI y then nI y else nI x) = nI (max x y) := by
  by_cases h : x < y
  · rw [if_pos ((nI_ltI hx hy).mpr h), Nat.max_eq_right (by omega)]
  · rw [if_neg (fun q => h ((nI_ltI hx hy).mp q)), Nat.max_eq_left (by omega)]
theorem kn_min {x y : Nat} (hx : x < 2 ^ 31) (hy : y < 2 ^ 31) : (if nI y < nI x then nI y else nI x) = nI (min x y) := by
  by_cases h : y < x
  · rw [if_pos ((nI_ltI hy hx).mpr h), Nat.min_eq_right (by omega)]
  · rw [if_neg (fun q => h ((nI_ltI hy hx).mp q)), Nat.min_eq_left (by omega)]
abbrev pk_bt (o oo : Int64) (v vv : Int32) (d dd : Int64) (n nn : Int32) : Prop := if o = oo then (if v = vv then (if d = dd then ¬ nn ≤ n else ¬ dd ≤ d) else ¬ vv ≤ v) else ¬ oo ≤ o

theorem kw_44 : Cond.initialized rr_K ∈ kx_T := kx_in (i := 44) (by decide +kernel) (by decide +kernel)
theorem kw_54 : Cond.initialized rr_Ma ∈ kx_T := kx_in (i := 54) (by decide +kernel) (by decide +kernel)
theorem kw_259 : Cond.fieldLink rr_Rw (15) "LineDesk$Row" "out" "[J" ∈ kx_T := kx_in (i := 259) (by decide +kernel) (by decide +kernel)
theorem kw_261 : Cond.fieldLink rr_Rw (19) "LineDesk$Row" "over" "[I" ∈ kx_T := kx_in (i := 261) (by decide +kernel) (by decide +kernel)
theorem kw_263 : Cond.fieldLink rr_Rw (23) "LineDesk$Row" "demerits" "[J" ∈ kx_T := kx_in (i := 263) (by decide +kernel) (by decide +kernel)
theorem kw_265 : Cond.fieldLink rr_Rw (26) "LineDesk$Row" "lineCount" "[I" ∈ kx_T := kx_in (i := 265) (by decide +kernel) (by decide +kernel)
theorem kw_408 : Cond.methodLink rr_K (48) yy_K_isWidth ∈ kx_T := kx_in (i := 408) (by decide +kernel) (by decide +kernel)
theorem kw_409 : Cond.static yy_K_isWidth ∈ kx_T := kx_in (i := 409) (by decide +kernel) (by decide +kernel)
set_option maxRecDepth 100000 in
theorem kw_410 : Cond.code yy_K_isWidth bb_K_isWidth 1 (some .boolean) ∈ kx_T := kx_in (i := 410) rfl (by decide +kernel)
theorem kw_411 : Cond.constant rr_K (153) (-1073741823) ∈ kx_T := kx_in (i := 411) (by decide +kernel) (by decide +kernel)
theorem kw_412 : Cond.constant rr_K (154) (1073741823) ∈ kx_T := kx_in (i := 412) (by decide +kernel) (by decide +kernel)
theorem kw_420 : Cond.methodLink rr_K (80) yy_Ma_min_0 ∈ kx_T := kx_in (i := 420) (by decide +kernel) (by decide +kernel)
theorem kw_421 : Cond.static yy_Ma_min_0 ∈ kx_T := kx_in (i := 421) (by decide +kernel) (by decide +kernel)
set_option maxRecDepth 100000 in
theorem kw_422 : Cond.code yy_Ma_min_0 bb_Ma_min_0 2 (some .int) ∈ kx_T := kx_in (i := 422) rfl (by decide +kernel)
theorem kw_423 : Cond.methodLink rr_K (85) yy_Ma_max ∈ kx_T := kx_in (i := 423) (by decide +kernel) (by decide +kernel)
theorem kw_424 : Cond.static yy_Ma_max ∈ kx_T := kx_in (i := 424) (by decide +kernel) (by decide +kernel)
set_option maxRecDepth 100000 in
theorem kw_425 : Cond.code yy_Ma_max bb_Ma_max 2 (some .int) ∈ kx_T := kx_in (i := 425) rfl (by decide +kernel)
theorem dd_K_isWidth_0 : decode bb_K_isWidth 0 = .ok (.iload_n 0, 1) := by decide +kernel
theorem dd_K_isWidth_1 : decode bb_K_isWidth 1 = .ok (.ldc 153, 2) := by decide +kernel
theorem dd_K_isWidth_3 : decode bb_K_isWidth 3 = .ok (.if_icmp .lt (13), 3) := by decide +kernel
theorem dd_K_isWidth_6 : decode bb_K_isWidth 6 = .ok (.iload_n 0, 1) := by decide +kernel
theorem dd_K_isWidth_7 : decode bb_K_isWidth 7 = .ok (.ldc 154, 2) := by decide +kernel
theorem dd_K_isWidth_9 : decode bb_K_isWidth 9 = .ok (.if_icmp .gt (7), 3) := by decide +kernel
theorem dd_K_isWidth_12 : decode bb_K_isWidth 12 = .ok (.iconst 1, 1) := by decide +kernel
theorem dd_K_isWidth_13 : decode bb_K_isWidth 13 = .ok (.goto (4), 3) := by decide +kernel
theorem dd_K_isWidth_16 : decode bb_K_isWidth 16 = .ok (.iconst 0, 1) := by decide +kernel
theorem dd_K_isWidth_17 : decode bb_K_isWidth 17 = .ok (.ireturn, 1) := by decide +kernel

set_option maxHeartbeats 4000000 in
set_option maxRecDepth 100000 in
theorem ct_K_isWidth (l : Launch) (D : va_G) (cI cJ cZ : ClassId) (sz : Nat) (v : Int32) : kx_Mi l yy_K_isWidth ww_K_isWidth ({ frames := 0, cells := 0, slots := 0, locals := 0 }) D vwCl (kx_ty cI cJ cZ) [.int v] [] sz (fun (r : Int32) (u : Unit) => r = kb_p (pm_wi v)) (fun (u : Unit) => []) 0 0 := by
  refine kx_starti (by decide) rfl (Nat.le_of_ble_eq_true rfl) ?_
  intro p e s m below meth c A ls hx hb hr hml hts hown hlocks hin hP hK hN hD hA hS hl
  have hl : lv_has ls 1 [(0, .int v)] := hl
  have hown : s.vm.findClass rr_K = some m.cls := hown
  have lk0 := hts _ (kx_m kw_411)
  have lk1 := hts _ (kx_m kw_412)
  obtain ⟨H, hH⟩ : ∃ H, H = s.heap := ⟨_, rfl⟩
  obtain ⟨locs, hlocs⟩ : ∃ z : List Loc, z = [] := ⟨_, rfl⟩
  have hP : va_P D vwCl [] H := by rw [hH]; exact hP
  have hS : va_S A s.heap H locs := by rw [hH, hlocs]; exact hS
  refine kx_gen hH hlocs ?_
  clear hH hlocs
  refine kx_nameQ (fun Q hQ => ?_)
  refine lv_iload_n hx hb dd_K_isWidth_0 rfl (lv_at hl 0 rfl) ?_
  refine lv_ldc (v := (-1073741823)) hx hb hown lk0 dd_K_isWidth_1 ?_
  refine lv_icmp_lt (tgt := 16) hx hb dd_K_isWidth_3 (by decide) (fun c3 => ?_) (fun c3 => ?_)
  · skip
    refine lv_iconst (v := nI 0) hx hb dd_K_isWidth_16 (by decide) ?_
    rw [hQ]
    exact kx_zret hx hb hr hlocks hK hN hS dd_K_isWidth_17 (by decide) () hP hD (by clear hP hD hS hK hl hts; first | (refine kb_t ?_; simp_all [pm_wi]; done) | (refine kb_f ?_; simp_all [pm_wi]; done) | (refine kb_t ?_; simp_all [pm_wi] <;> (intros; omega)) | (refine kb_f ?_; simp_all [pm_wi] <;> (intros; omega)))
  · skip
    refine lv_iload_n hx hb dd_K_isWidth_6 rfl (lv_at hl 0 rfl) ?_
    refine lv_ldc (v := nI 1073741823) hx hb hown lk1 dd_K_isWidth_7 ?_
    refine lv_icmp_gt (tgt := 16) hx hb dd_K_isWidth_9 (by decide) (fun c9 => ?_) (fun c9 => ?_)
    · skip
      refine lv_iconst (v := nI 0) hx hb dd_K_isWidth_16 (by decide) ?_
      rw [hQ]
      exact kx_zret hx hb hr hlocks hK hN hS dd_K_isWidth_17 (by decide) () hP hD (by clear hP hD hS hK hl hts; first | (refine kb_t ?_; simp_all [pm_wi]; done) | (refine kb_f ?_; simp_all [pm_wi]; done) | (refine kb_t ?_; simp_all [pm_wi] <;> (intros; omega)) | (refine kb_f ?_; simp_all [pm_wi] <;> (intros; omega)))
    · skip
      refine lv_iconst (v := nI 1) hx hb dd_K_isWidth_12 (by decide) ?_
      refine lv_goto (tgt := 17) hx hb dd_K_isWidth_13 (by decide) ?_
      rw [hQ]
      exact kx_zret hx hb hr hlocks hK hN hS dd_K_isWidth_17 (by decide) () hP hD (by clear hP hD hS hK hl hts; first | (refine kb_t ?_; simp_all [pm_wi]; done) | (refine kb_f ?_; simp_all [pm_wi]; done) | (refine kb_t ?_; simp_all [pm_wi] <;> (intros; omega)) | (refine kb_f ?_; simp_all [pm_wi] <;> (intros; omega)))

theorem dd_K_isGlue_0 : decode bb_K_isGlue 0 = .ok (.iload_n 0, 1) := by decide +kernel
theorem dd_K_isGlue_1 : decode bb_K_isGlue 1 = .ok (.invokestatic 48, 3) := by decide +kernel
theorem dd_K_isGlue_4 : decode bb_K_isGlue 4 = .ok (.ifCond .eq (36), 3) := by decide +kernel
theorem dd_K_isGlue_7 : decode bb_K_isGlue 7 = .ok (.iload_n 1, 1) := by decide +kernel
theorem dd_K_isGlue_8 : decode bb_K_isGlue 8 = .ok (.ifCond .lt (32), 3) := by decide +kernel
theorem dd_K_isGlue_11 : decode bb_K_isGlue 11 = .ok (.iload_n 1, 1) := by decide +kernel
theorem dd_K_isGlue_12 : decode bb_K_isGlue 12 = .ok (.ldc 154, 2) := by decide +kernel
theorem dd_K_isGlue_14 : decode bb_K_isGlue 14 = .ok (.if_icmp .gt (26), 3) := by decide +kernel
theorem dd_K_isGlue_17 : decode bb_K_isGlue 17 = .ok (.iload_n 2, 1) := by decide +kernel
theorem dd_K_isGlue_18 : decode bb_K_isGlue 18 = .ok (.ifCond .lt (22), 3) := by decide +kernel
theorem dd_K_isGlue_21 : decode bb_K_isGlue 21 = .ok (.iload_n 2, 1) := by decide +kernel
theorem dd_K_isGlue_22 : decode bb_K_isGlue 22 = .ok (.iconst 3, 1) := by decide +kernel
theorem dd_K_isGlue_23 : decode bb_K_isGlue 23 = .ok (.if_icmp .gt (17), 3) := by decide +kernel
theorem dd_K_isGlue_26 : decode bb_K_isGlue 26 = .ok (.iload_n 3, 1) := by decide +kernel
theorem dd_K_isGlue_27 : decode bb_K_isGlue 27 = .ok (.ifCond .lt (13), 3) := by decide +kernel
theorem dd_K_isGlue_30 : decode bb_K_isGlue 30 = .ok (.iload_n 3, 1) := by decide +kernel
theorem dd_K_isGlue_31 : decode bb_K_isGlue 31 = .ok (.ldc 154, 2) := by decide +kernel
theorem dd_K_isGlue_33 : decode bb_K_isGlue 33 = .ok (.if_icmp .gt (7), 3) := by decide +kernel
theorem dd_K_isGlue_36 : decode bb_K_isGlue 36 = .ok (.iconst 1, 1) := by decide +kernel
theorem dd_K_isGlue_37 : decode bb_K_isGlue 37 = .ok (.goto (4), 3) := by decide +kernel
theorem dd_K_isGlue_40 : decode bb_K_isGlue 40 = .ok (.iconst 0, 1) := by decide +kernel
theorem dd_K_isGlue_41 : decode bb_K_isGlue 41 = .ok (.ireturn, 1) := by decide +kernel

set_option maxHeartbeats 4000000 in
set_option maxRecDepth 100000 in
theorem ct_K_isGlue (l : Launch) (D : va_G) (cI cJ cZ : ClassId) (sz : Nat) (w : Int32) (st2 : Int32) (or2 : Int32) (sh2 : Int32) : kx_Mi l yy_K_isGlue ww_K_isGlue ({ frames := 1, cells := 0, slots := 0, locals := 20 }) D vwCl (kx_ty cI cJ cZ) [.int w, .int st2, .int or2, .int sh2] [] sz (fun (r : Int32) (u : Unit) => r = kb_p (pm_gl w st2 or2 sh2)) (fun (u : Unit) => []) 0 0 := by
  refine kx_starti (by decide) rfl (Nat.le_of_ble_eq_true rfl) ?_
  intro p e s m below meth c A ls hx hb hr hml hts hown hlocks hin hP hK hN hD hA hS hl
  have hl : lv_has ls 4 [(0, .int w), (1, .int st2), (2, .int or2), (3, .int sh2)] := hl
  have hown : s.vm.findClass rr_K = some m.cls := hown
  have lk0 := hts _ (kx_m kw_412)
  obtain ⟨H, hH⟩ : ∃ H, H = s.heap := ⟨_, rfl⟩
  obtain ⟨locs, hlocs⟩ : ∃ z : List Loc, z = [] := ⟨_, rfl⟩
  have hP : va_P D vwCl [] H := by rw [hH]; exact hP
  have hS : va_S A s.heap H locs := by rw [hH, hlocs]; exact hS
  refine kx_gen hH hlocs ?_
  clear hH hlocs
  refine kx_nameQ (fun Q hQ => ?_)
  refine lv_iload_n hx hb dd_K_isGlue_0 rfl (lv_at hl 0 rfl) ?_
  refine kx_calli (wr := []) (va_runS (As := [.int w]) (rest := []) ⟨hx, hb, hml, hown, hts⟩ (ct_K_isWidth l D cI cJ cZ H.size w) ⟨(callB_of 1 hts (kx_good kw_410) rfl rfl rfl (hts _ (kx_m kw_44)) (hts _ (kx_m kw_408)) (by decide +kernel) ⟨Nat.le_of_ble_eq_true rfl, Nat.le_of_ble_eq_true rfl⟩), (hts _ (kx_m kw_409))⟩ (kx_preS hK hN (hP.sub [] kt_0_) (hD.sub [] (by decide) ks_0_)) rfl rfl hl.1 rfl (lv_room (Nat.le_of_ble_eq_true rfl)) dd_K_isGlue_1 ⟨Nat.le_of_ble_eq_true rfl, Nat.le_of_ble_eq_true rfl⟩) hP hD hS hA [] [] ks_0_ ks_0_ (by decide) (by decide) (fun r1 u1 H locs hw1 hP hD hS => ?_)
  have hP : va_P D vwCl [] H := hP
  have hD : va_D A [] := hD
  have hw1 : r1 = kb_p (pm_wi w) := hw1
  subst hw1
  refine lv_if_eq (tgt := 40) hx hb dd_K_isGlue_4 (by decide) (fun c4 => ?_) (fun c4 => ?_)
  · skip
    have c4 : ¬ (pm_wi w) := kb_0.mp c4
    refine lv_iconst (v := nI 0) hx hb dd_K_isGlue_40 (by decide) ?_
    rw [hQ]
    exact kx_zret hx hb hr hlocks hK hN hS dd_K_isGlue_41 (by decide) () hP hD (by first | exact kb_f (fun q => c4 q.1) | (clear hP hD hS hK hl hts; first | (refine kb_t ?_; simp_all [pm_gl, pm_in, pm_wi, nI_0]; done) | (refine kb_f ?_; simp_all [pm_gl, pm_in, pm_wi, nI_0]; done) | (refine kb_t ?_; simp_all [pm_gl, pm_in, pm_wi, nI_0] <;> (intros; omega)) | (refine kb_f ?_; simp_all [pm_gl, pm_in, pm_wi, nI_0] <;> (intros; omega))))
  · skip
    have c4 : pm_wi w := kb_1.mp c4
    refine lv_iload_n hx hb dd_K_isGlue_7 rfl (lv_at hl 1 rfl) ?_
    refine lv_if_lt (tgt := 40) hx hb dd_K_isGlue_8 (by decide) (fun c8 => ?_) (fun c8 => ?_)
    · skip
      refine lv_iconst (v := nI 0) hx hb dd_K_isGlue_40 (by decide) ?_
      rw [hQ]
      exact kx_zret hx hb hr hlocks hK hN hS dd_K_isGlue_41 (by decide) () hP hD (by first | exact kb_f (fun q => c4 q.1) | (clear hP hD hS hK hl hts; first | (refine kb_t ?_; simp_all [pm_gl, pm_in, pm_wi, nI_0]; done) | (refine kb_f ?_; simp_all [pm_gl, pm_in, pm_wi, nI_0]; done) | (refine kb_t ?_; simp_all [pm_gl, pm_in, pm_wi, nI_0] <;> (intros; omega)) | (refine kb_f ?_; simp_all [pm_gl, pm_in, pm_wi, nI_0] <;> (intros; omega))))
    · skip
      refine lv_iload_n hx hb dd_K_isGlue_11 rfl (lv_at hl 1 rfl) ?_
      refine lv_ldc (v := nI 1073741823) hx hb hown lk0 dd_K_isGlue_12 ?_
      refine lv_icmp_gt (tgt := 40) hx hb dd_K_isGlue_14 (by decide) (fun c14 => ?_) (fun c14 => ?_)
      · skip
        refine lv_iconst (v := nI 0) hx hb dd_K_isGlue_40 (by decide) ?_
        rw [hQ]
        exact kx_zret hx hb hr hlocks hK hN hS dd_K_isGlue_41 (by decide) () hP hD (by first | exact kb_f (fun q => c4 q.1) | (clear hP hD hS hK hl hts; first | (refine kb_t ?_; simp_all [pm_gl, pm_in, pm_wi, nI_0]; done) | (refine kb_f ?_; simp_all [pm_gl, pm_in, pm_wi, nI_0]; done) | (refine kb_t ?_; simp_all [pm_gl, pm_in, pm_wi, nI_0] <;> (intros; omega)) | (refine kb_f ?_; simp_all [pm_gl, pm_in, pm_wi, nI_0] <;> (intros; omega))))
      · skip
        refine lv_iload_n hx hb dd_K_isGlue_17 rfl (lv_at hl 2 rfl) ?_
        refine lv_if_lt (tgt := 40) hx hb dd_K_isGlue_18 (by decide) (fun c18 => ?_) (fun c18 => ?_)
        · skip
          refine lv_iconst (v := nI 0) hx hb dd_K_isGlue_40 (by decide) ?_
          rw [hQ]
          exact kx_zret hx hb hr hlocks hK hN hS dd_K_isGlue_41 (by decide) () hP hD (by first | exact kb_f (fun q => c4 q.1) | (clear hP hD hS hK hl hts; first | (refine kb_t ?_; simp_all [pm_gl, pm_in, pm_wi, nI_0]; done) | (refine kb_f ?_; simp_all [pm_gl, pm_in, pm_wi, nI_0]; done) | (refine kb_t ?_; simp_all [pm_gl, pm_in, pm_wi, nI_0] <;> (intros; omega)) | (refine kb_f ?_; simp_all [pm_gl, pm_in, pm_wi, nI_0] <;> (intros; omega))))
        · skip
          refine lv_iload_n hx hb dd_K_isGlue_21 rfl (lv_at hl 2 rfl) ?_
          refine lv_iconst (v := nI 3) hx hb dd_K_isGlue_22 (by decide) ?_
          refine lv_icmp_gt (tgt := 40) hx hb dd_K_isGlue_23 (by decide) (fun c23 => ?_) (fun c23 => ?_)
          · skip
            refine lv_iconst (v := nI 0) hx hb dd_K_isGlue_40 (by decide) ?_
            rw [hQ]
            exact kx_zret hx hb hr hlocks hK hN hS dd_K_isGlue_41 (by decide) () hP hD (by first | exact kb_f (fun q => c4 q.1) | (clear hP hD hS hK hl hts; first | (refine kb_t ?_; simp_all [pm_gl, pm_in, pm_wi, nI_0]; done) | (refine kb_f ?_; simp_all [pm_gl, pm_in, pm_wi, nI_0]; done) | (refine kb_t ?_; simp_all [pm_gl, pm_in, pm_wi, nI_0] <;> (intros; omega)) | (refine kb_f ?_; simp_all [pm_gl, pm_in, pm_wi, nI_0] <;> (intros; omega))))
          · skip
            refine lv_iload_n hx hb dd_K_isGlue_26 rfl (lv_at hl 3 rfl) ?_
            refine lv_if_lt (tgt := 40) hx hb dd_K_isGlue_27 (by decide) (fun c27 => ?_) (fun c27 => ?_)
            · skip
              refine lv_iconst (v := nI 0) hx hb dd_K_isGlue_40 (by decide) ?_
              rw [hQ]
              exact kx_zret hx hb hr hlocks hK hN hS dd_K_isGlue_41 (by decide) () hP hD (by first | exact kb_f (fun q => c4 q.1) | (clear hP hD hS hK hl hts; first | (refine kb_t ?_; simp_all [pm_gl, pm_in, pm_wi, nI_0]; done) | (refine kb_f ?_; simp_all [pm_gl, pm_in, pm_wi, nI_0]; done) | (refine kb_t ?_; simp_all [pm_gl, pm_in, pm_wi, nI_0] <;> (intros; omega)) | (refine kb_f ?_; simp_all [pm_gl, pm_in, pm_wi, nI_0] <;> (intros; omega))))
            · skip
              refine lv_iload_n hx hb dd_K_isGlue_30 rfl (lv_at hl 3 rfl) ?_
              refine lv_ldc (v := nI 1073741823) hx hb hown lk0 dd_K_isGlue_31 ?_
              refine lv_icmp_gt (tgt := 40) hx hb dd_K_isGlue_33 (by decide) (fun c33 => ?_) (fun c33 => ?_)
              · skip
                refine lv_iconst (v := nI 0) hx hb dd_K_isGlue_40 (by decide) ?_
                rw [hQ]
                exact kx_zret hx hb hr hlocks hK hN hS dd_K_isGlue_41 (by decide) () hP hD (by first | exact kb_f (fun q => c4 q.1) | (clear hP hD hS hK hl hts; first | (refine kb_t ?_; simp_all [pm_gl, pm_in, pm_wi, nI_0]; done) | (refine kb_f ?_; simp_all [pm_gl, pm_in, pm_wi, nI_0]; done) | (refine kb_t ?_; simp_all [pm_gl, pm_in, pm_wi, nI_0] <;> (intros; omega)) | (refine kb_f ?_; simp_all [pm_gl, pm_in, pm_wi, nI_0] <;> (intros; omega))))
              · skip
                refine lv_iconst (v := nI 1) hx hb dd_K_isGlue_36 (by decide) ?_
                refine lv_goto (tgt := 41) hx hb dd_K_isGlue_37 (by decide) ?_
                rw [hQ]
                exact kx_zret hx hb hr hlocks hK hN hS dd_K_isGlue_41 (by decide) () hP hD (by first | exact kb_f (fun q => c4 q.1) | (clear hP hD hS hK hl hts; first | (refine kb_t ?_; simp_all [pm_gl, pm_in, pm_wi, nI_0]; done) | (refine kb_f ?_; simp_all [pm_gl, pm_in, pm_wi, nI_0]; done) | (refine kb_t ?_; simp_all [pm_gl, pm_in, pm_wi, nI_0] <;> (intros; omega)) | (refine kb_f ?_; simp_all [pm_gl, pm_in, pm_wi, nI_0] <;> (intros; omega))))

theorem dd_K_grown_0 : decode bb_K_grown 0 = .ok (.iload_n 1, 1) := by decide +kernel
theorem dd_K_grown_1 : decode bb_K_grown 1 = .ok (.iload_n 2, 1) := by decide +kernel
theorem dd_K_grown_2 : decode bb_K_grown 2 = .ok (.iconst 2, 1) := by decide +kernel
theorem dd_K_grown_3 : decode bb_K_grown 3 = .ok (.iload_n 0, 1) := by decide +kernel
theorem dd_K_grown_4 : decode bb_K_grown 4 = .ok (.imul, 1) := by decide +kernel
theorem dd_K_grown_5 : decode bb_K_grown 5 = .ok (.invokestatic 80, 3) := by decide +kernel
theorem dd_K_grown_8 : decode bb_K_grown 8 = .ok (.invokestatic 85, 3) := by decide +kernel
theorem dd_K_grown_11 : decode bb_K_grown 11 = .ok (.ireturn, 1) := by decide +kernel

set_option maxHeartbeats 4000000 in
set_option maxRecDepth 100000 in
theorem ct_K_grown (l : Launch) (D : va_G) (cI cJ cZ : ClassId) (sz : Nat) (hv : Nat) (nd : Nat) (mo : Nat) (h1 : hv < 2 ^ 30) (h2 : nd < 2 ^ 31) (h3 : mo < 2 ^ 31) : kx_Mi l yy_K_grown ww_K_grown ({ frames := 1, cells := 0, slots := 0, locals := 21 }) D vwCl (kx_ty cI cJ cZ) [.int (nI hv), .int (nI nd), .int (nI mo)] [] sz (fun (r : Int32) (u : Unit) => r = nI (max nd (min mo (2 * hv)))) (fun (u : Unit) => []) 0 0 := by
  refine kx_starti (by decide) rfl (Nat.le_of_ble_eq_true rfl) ?_
  intro p e s m below meth c A ls hx hb hr hml hts hown hlocks hin hP hK hN hD hA hS hl
  have hl : lv_has ls 3 [(0, .int (nI hv)), (1, .int (nI nd)), (2, .int (nI mo))] := hl
  have hown : s.vm.findClass rr_K = some m.cls := hown
  obtain ⟨H, hH⟩ : ∃ H, H = s.heap := ⟨_, rfl⟩
  obtain ⟨locs, hlocs⟩ : ∃ z : List Loc, z = [] := ⟨_, rfl⟩
  have hP : va_P D vwCl [] H := by rw [hH]; exact hP
  have hS : va_S A s.heap H locs := by rw [hH, hlocs]; exact hS
  refine kx_gen hH hlocs ?_
  clear hH hlocs
  refine kx_nameQ (fun Q hQ => ?_)
  refine lv_iload_n hx hb dd_K_grown_0 rfl (lv_at hl 1 rfl) ?_
  refine lv_iload_n hx hb dd_K_grown_1 rfl (lv_at hl 2 rfl) ?_
  refine lv_iconst (v := nI 2) hx hb dd_K_grown_2 (by decide) ?_
  refine lv_iload_n hx hb dd_K_grown_3 rfl (lv_at hl 0 rfl) ?_
  refine kx_imul hx hb dd_K_grown_4 ?_
  refine va_mmin hx hb (by rw [hml]; exact hl.1.symm) hown (hts _ (kx_m kw_420)) (hts _ (kx_m kw_421)) (hts _ (kx_m kw_54)) (hts _ (kx_m kw_422)) (Nat.le_of_ble_eq_true rfl) (Nat.le_of_ble_eq_true rfl) (Nat.zero_le _) (Nat.zero_le _) dd_K_grown_5 ?_
  refine kx_toN (n := min mo (2 * hv)) (kn_min (by omega) (by omega)) ?_
  refine va_mmax hx hb (by rw [hml]; exact hl.1.symm) hown (hts _ (kx_m kw_423)) (hts _ (kx_m kw_424)) (hts _ (kx_m kw_54)) (hts _ (kx_m kw_425)) (Nat.le_of_ble_eq_true rfl) (Nat.le_of_ble_eq_true rfl) (Nat.zero_le _) (Nat.zero_le _) dd_K_grown_8 ?_
  refine kx_toN (n := max nd (min mo (2 * hv))) (kn_max (by omega) (by omega)) ?_
  rw [hQ]
  exact kx_iret hx hb hr hlocks hK hN hS dd_K_grown_11 () hP hD rfl

theorem dd_Rw_has_0 : decode bb_Rw_has 0 = .ok (.aload_n 0, 1) := by decide +kernel
theorem dd_Rw_has_1 : decode bb_Rw_has 1 = .ok (.getfield 26, 3) := by decide +kernel
theorem dd_Rw_has_4 : decode bb_Rw_has 4 = .ok (.iload_n 1, 1) := by decide +kernel
theorem dd_Rw_has_5 : decode bb_Rw_has 5 = .ok (.iaload, 1) := by decide +kernel
theorem dd_Rw_has_6 : decode bb_Rw_has 6 = .ok (.iconst (-1), 1) := by decide +kernel
theorem dd_Rw_has_7 : decode bb_Rw_has 7 = .ok (.if_icmp .eq (7), 3) := by decide +kernel
theorem dd_Rw_has_10 : decode bb_Rw_has 10 = .ok (.iconst 1, 1) := by decide +kernel
theorem dd_Rw_has_11 : decode bb_Rw_has 11 = .ok (.goto (4), 3) := by decide +kernel
theorem dd_Rw_has_14 : decode bb_Rw_has 14 = .ok (.iconst 0, 1) := by decide +kernel
theorem dd_Rw_has_15 : decode bb_Rw_has 15 = .ok (.ireturn, 1) := by decide +kernel

set_option maxHeartbeats 4000000 in
set_option maxRecDepth 100000 in
theorem ct_Rw_has (l : Launch) (D : va_G) (cI cJ cZ : ClassId) (sz : Nat) (o : Nat) (q0 : Nat) (q1 : Nat) (q2 : Nat) (q3 : Nat) (ln : Nat) (an : Int32) (rc : Nat → Int32) (pl : Nat) (hp : pl < ln) (hln : ln < 2 ^ 31) : kx_Mi l yy_Rw_has ww_Rw_has ({ frames := 0, cells := 0, slots := 0, locals := 0 }) D vwCl (kx_ty cI cJ cZ) [.ref o, .int (nI pl)] [(o, .inr (6, [.int an, .ref q0, .ref q1, .ref q2, .ref q3])), (q3, .inl (cI, ln, .inl rc))] sz (fun (r : Int32) (u : Unit) => r = kb_p (¬ rc pl = (-1))) (fun (u : Unit) => [(o, .inr (6, [.int an, .ref q0, .ref q1, .ref q2, .ref q3])), (q3, .inl (cI, ln, .inl rc))]) 0 0 := by
  refine kx_starti (by decide) rfl (Nat.le_of_ble_eq_true rfl) ?_
  intro p e s m below meth c A ls hx hb hr hml hts hown hlocks hin hP hK hN hD hA hS hl
  have hl : lv_has ls 2 [(0, .ref o), (1, .int (nI pl))] := hl
  have hown : s.vm.findClass rr_Rw = some m.cls := hown
  have lk0 := hts _ (kx_m kw_265)
  have hin6 : ∀ w ∈ u_ws rr_Rw tt_Rw 5, w ∈ ww_Rw_has := fun w h => kx_m (kf_Rw w h)
  obtain ⟨H, hH⟩ : ∃ H, H = s.heap := ⟨_, rfl⟩
  obtain ⟨locs, hlocs⟩ : ∃ z : List Loc, z = [] := ⟨_, rfl⟩
  have hP : va_P D vwCl [(o, .inr (6, [.int an, .ref q0, .ref q1, .ref q2, .ref q3])), (q3, .inl (cI, ln, .inl rc))] H := by rw [hH]; exact hP
  have hS : va_S A s.heap H locs := by rw [hH, hlocs]; exact hS
  refine kx_gen hH hlocs ?_
  clear hH hlocs
  refine kx_nameQ (fun Q hQ => ?_)
  refine lv_aload_n hx hb dd_Rw_has_0 rfl (lv_at hl 0 rfl) ?_
  refine va_get (D := D) (ci := 6) (v := .ref q3) (C := rr_Rw) (T := tt_Rw) (N := 5) hx hb hts hin6 hown hK hP 0 kg_2_0 rfl 4 (by decide) lk0 (fun _ h9 => h9) rfl dd_Rw_has_1 ?_
  refine lv_iload_n hx hb dd_Rw_has_4 rfl (lv_at hl 1 rfl) ?_
  refine kx_iald (q0 := 1) (t0 := 0) hx hb dd_Rw_has_5 hK hP kg_2_1 rfl (by omega) (by omega) ?_
  refine lv_iconst (v := (-1)) hx hb dd_Rw_has_6 (by decide) ?_
  refine lv_icmp_eq (tgt := 14) hx hb dd_Rw_has_7 (by decide) (fun c7 => ?_) (fun c7 => ?_)
  · skip
    refine lv_iconst (v := nI 0) hx hb dd_Rw_has_14 (by decide) ?_
    rw [hQ]
    exact kx_zret hx hb hr hlocks hK hN hS dd_Rw_has_15 (by decide) () hP hD (by clear hP hD hS hK hl hts; first | (refine kb_t ?_; simp_all; done) | (refine kb_f ?_; simp_all; done) | (refine kb_t ?_; simp_all <;> (intros; omega)) | (refine kb_f ?_; simp_all <;> (intros; omega)))
  · skip
    refine lv_iconst (v := nI 1) hx hb dd_Rw_has_10 (by decide) ?_
    refine lv_goto (tgt := 15) hx hb dd_Rw_has_11 (by decide) ?_
    rw [hQ]
    exact kx_zret hx hb hr hlocks hK hN hS dd_Rw_has_15 (by decide) () hP hD (by clear hP hD hS hK hl hts; first | (refine kb_t ?_; simp_all; done) | (refine kb_f ?_; simp_all; done) | (refine kb_t ?_; simp_all <;> (intros; omega)) | (refine kb_f ?_; simp_all <;> (intros; omega)))

theorem dd_Rw_isBetter_0 : decode bb_Rw_isBetter 0 = .ok (.lload_n 2, 1) := by decide +kernel
theorem dd_Rw_isBetter_1 : decode bb_Rw_isBetter 1 = .ok (.aload_n 0, 1) := by decide +kernel
theorem dd_Rw_isBetter_2 : decode bb_Rw_isBetter 2 = .ok (.getfield 15, 3) := by decide +kernel
theorem dd_Rw_isBetter_5 : decode bb_Rw_isBetter 5 = .ok (.iload_n 1, 1) := by decide +kernel
theorem dd_Rw_isBetter_6 : decode bb_Rw_isBetter 6 = .ok (.laload, 1) := by decide +kernel
theorem dd_Rw_isBetter_7 : decode bb_Rw_isBetter 7 = .ok (.lcmp, 1) := by decide +kernel
theorem dd_Rw_isBetter_8 : decode bb_Rw_isBetter 8 = .ok (.ifCond .eq (20), 3) := by decide +kernel
theorem dd_Rw_isBetter_11 : decode bb_Rw_isBetter 11 = .ok (.lload_n 2, 1) := by decide +kernel
theorem dd_Rw_isBetter_12 : decode bb_Rw_isBetter 12 = .ok (.aload_n 0, 1) := by decide +kernel
theorem dd_Rw_isBetter_13 : decode bb_Rw_isBetter 13 = .ok (.getfield 15, 3) := by decide +kernel
theorem dd_Rw_isBetter_16 : decode bb_Rw_isBetter 16 = .ok (.iload_n 1, 1) := by decide +kernel
theorem dd_Rw_isBetter_17 : decode bb_Rw_isBetter 17 = .ok (.laload, 1) := by decide +kernel
theorem dd_Rw_isBetter_18 : decode bb_Rw_isBetter 18 = .ok (.lcmp, 1) := by decide +kernel
theorem dd_Rw_isBetter_19 : decode bb_Rw_isBetter 19 = .ok (.ifCond .ge (7), 3) := by decide +kernel
theorem dd_Rw_isBetter_22 : decode bb_Rw_isBetter 22 = .ok (.iconst 1, 1) := by decide +kernel
theorem dd_Rw_isBetter_23 : decode bb_Rw_isBetter 23 = .ok (.goto (4), 3) := by decide +kernel
theorem dd_Rw_isBetter_26 : decode bb_Rw_isBetter 26 = .ok (.iconst 0, 1) := by decide +kernel
theorem dd_Rw_isBetter_27 : decode bb_Rw_isBetter 27 = .ok (.ireturn, 1) := by decide +kernel
theorem dd_Rw_isBetter_28 : decode bb_Rw_isBetter 28 = .ok (.iload 4, 2) := by decide +kernel
theorem dd_Rw_isBetter_30 : decode bb_Rw_isBetter 30 = .ok (.aload_n 0, 1) := by decide +kernel
theorem dd_Rw_isBetter_31 : decode bb_Rw_isBetter 31 = .ok (.getfield 19, 3) := by decide +kernel
theorem dd_Rw_isBetter_34 : decode bb_Rw_isBetter 34 = .ok (.iload_n 1, 1) := by decide +kernel
theorem dd_Rw_isBetter_35 : decode bb_Rw_isBetter 35 = .ok (.iaload, 1) := by decide +kernel
theorem dd_Rw_isBetter_36 : decode bb_Rw_isBetter 36 = .ok (.if_icmp .eq (20), 3) := by decide +kernel
theorem dd_Rw_isBetter_39 : decode bb_Rw_isBetter 39 = .ok (.iload 4, 2) := by decide +kernel
theorem dd_Rw_isBetter_41 : decode bb_Rw_isBetter 41 = .ok (.aload_n 0, 1) := by decide +kernel
theorem dd_Rw_isBetter_42 : decode bb_Rw_isBetter 42 = .ok (.getfield 19, 3) := by decide +kernel
theorem dd_Rw_isBetter_45 : decode bb_Rw_isBetter 45 = .ok (.iload_n 1, 1) := by decide +kernel
theorem dd_Rw_isBetter_46 : decode bb_Rw_isBetter 46 = .ok (.iaload, 1) := by decide +kernel
theorem dd_Rw_isBetter_47 : decode bb_Rw_isBetter 47 = .ok (.if_icmp .ge (7), 3) := by decide +kernel
theorem dd_Rw_isBetter_50 : decode bb_Rw_isBetter 50 = .ok (.iconst 1, 1) := by decide +kernel
theorem dd_Rw_isBetter_51 : decode bb_Rw_isBetter 51 = .ok (.goto (4), 3) := by decide +kernel
theorem dd_Rw_isBetter_54 : decode bb_Rw_isBetter 54 = .ok (.iconst 0, 1) := by decide +kernel
theorem dd_Rw_isBetter_55 : decode bb_Rw_isBetter 55 = .ok (.ireturn, 1) := by decide +kernel
theorem dd_Rw_isBetter_56 : decode bb_Rw_isBetter 56 = .ok (.lload 5, 2) := by decide +kernel
theorem dd_Rw_isBetter_58 : decode bb_Rw_isBetter 58 = .ok (.aload_n 0, 1) := by decide +kernel
theorem dd_Rw_isBetter_59 : decode bb_Rw_isBetter 59 = .ok (.getfield 23, 3) := by decide +kernel
theorem dd_Rw_isBetter_62 : decode bb_Rw_isBetter 62 = .ok (.iload_n 1, 1) := by decide +kernel
theorem dd_Rw_isBetter_63 : decode bb_Rw_isBetter 63 = .ok (.laload, 1) := by decide +kernel
theorem dd_Rw_isBetter_64 : decode bb_Rw_isBetter 64 = .ok (.lcmp, 1) := by decide +kernel
theorem dd_Rw_isBetter_65 : decode bb_Rw_isBetter 65 = .ok (.ifCond .eq (21), 3) := by decide +kernel
theorem dd_Rw_isBetter_68 : decode bb_Rw_isBetter 68 = .ok (.lload 5, 2) := by decide +kernel
theorem dd_Rw_isBetter_70 : decode bb_Rw_isBetter 70 = .ok (.aload_n 0, 1) := by decide +kernel
theorem dd_Rw_isBetter_71 : decode bb_Rw_isBetter 71 = .ok (.getfield 23, 3) := by decide +kernel
theorem dd_Rw_isBetter_74 : decode bb_Rw_isBetter 74 = .ok (.iload_n 1, 1) := by decide +kernel
theorem dd_Rw_isBetter_75 : decode bb_Rw_isBetter 75 = .ok (.laload, 1) := by decide +kernel
theorem dd_Rw_isBetter_76 : decode bb_Rw_isBetter 76 = .ok (.lcmp, 1) := by decide +kernel
theorem dd_Rw_isBetter_77 : decode bb_Rw_isBetter 77 = .ok (.ifCond .ge (7), 3) := by decide +kernel
theorem dd_Rw_isBetter_80 : decode bb_Rw_isBetter 80 = .ok (.iconst 1, 1) := by decide +kernel
theorem dd_Rw_isBetter_81 : decode bb_Rw_isBetter 81 = .ok (.goto (4), 3) := by decide +kernel
theorem dd_Rw_isBetter_84 : decode bb_Rw_isBetter 84 = .ok (.iconst 0, 1) := by decide +kernel
theorem dd_Rw_isBetter_85 : decode bb_Rw_isBetter 85 = .ok (.ireturn, 1) := by decide +kernel
theorem dd_Rw_isBetter_86 : decode bb_Rw_isBetter 86 = .ok (.iload 7, 2) := by decide +kernel
theorem dd_Rw_isBetter_88 : decode bb_Rw_isBetter 88 = .ok (.aload_n 0, 1) := by decide +kernel
theorem dd_Rw_isBetter_89 : decode bb_Rw_isBetter 89 = .ok (.getfield 26, 3) := by decide +kernel
theorem dd_Rw_isBetter_92 : decode bb_Rw_isBetter 92 = .ok (.iload_n 1, 1) := by decide +kernel
theorem dd_Rw_isBetter_93 : decode bb_Rw_isBetter 93 = .ok (.iaload, 1) := by decide +kernel
theorem dd_Rw_isBetter_94 : decode bb_Rw_isBetter 94 = .ok (.if_icmp .ge (7), 3) := by decide +kernel
theorem dd_Rw_isBetter_97 : decode bb_Rw_isBetter 97 = .ok (.iconst 1, 1) := by decide +kernel
theorem dd_Rw_isBetter_98 : decode bb_Rw_isBetter 98 = .ok (.goto (4), 3) := by decide +kernel
theorem dd_Rw_isBetter_101 : decode bb_Rw_isBetter 101 = .ok (.iconst 0, 1) := by decide +kernel
theorem dd_Rw_isBetter_102 : decode bb_Rw_isBetter 102 = .ok (.ireturn, 1) := by decide +kernel

set_option maxHeartbeats 4000000 in
set_option maxRecDepth 100000 in
theorem ct_Rw_isBetter (l : Launch) (D : va_G) (cI cJ cZ : ClassId) (sz : Nat) (o : Nat) (q0 : Nat) (q1 : Nat) (q2 : Nat) (q3 : Nat) (ln : Nat) (an : Int32) (ro : Nat → Int64) (rv : Nat → Int32) (rd : Nat → Int64) (rc : Nat → Int32) (pl : Nat) (no : Int64) (nv : Int32) (nd : Int64) (nc : Int32) (hp : pl < ln) (hln : ln < 2 ^ 31) : kx_Mi l yy_Rw_isBetter ww_Rw_isBetter ({ frames := 0, cells := 0, slots := 0, locals := 0 }) D vwCl (kx_ty cI cJ cZ) [.ref o, .int (nI pl), .long no, .int nv, .long nd, .int nc] [(o, .inr (6, [.int an, .ref q0, .ref q1, .ref q2, .ref q3])), (q0, .inl (cJ, ln, .inr (.inl ro))), (q1, .inl (cI, ln, .inl rv)), (q2, .inl (cJ, ln, .inr (.inl rd))), (q3, .inl (cI, ln, .inl rc))] sz (fun (r : Int32) (u : Unit) => r = kb_p (pk_bt no (ro pl) nv (rv pl) nd (rd pl) nc (rc pl))) (fun (u : Unit) => [(o, .inr (6, [.int an, .ref q0, .ref q1, .ref q2, .ref q3])), (q0, .inl (cJ, ln, .inr (.inl ro))), (q1, .inl (cI, ln, .inl rv)), (q2, .inl (cJ, ln, .inr (.inl rd))), (q3, .inl (cI, ln, .inl rc))]) 0 0 := by
  refine kx_starti (by decide) rfl (Nat.le_of_ble_eq_true rfl) ?_
  intro p e s m below meth c A ls hx hb hr hml hts hown hlocks hin hP hK hN hD hA hS hl
  have hl : lv_has ls 8 [(0, .ref o), (1, .int (nI pl)), (2, .long no), (4, .int nv), (5, .long nd), (7, .int nc)] := hl
  have hown : s.vm.findClass rr_Rw = some m.cls := hown
  have lk0 := hts _ (kx_m kw_259)
  have hin6 : ∀ w ∈ u_ws rr_Rw tt_Rw 5, w ∈ ww_Rw_isBetter := fun w h => kx_m (kf_Rw w h)
  have lk2 := hts _ (kx_m kw_261)
  have lk3 := hts _ (kx_m kw_263)
  have lk4 := hts _ (kx_m kw_265)
  obtain ⟨H, hH⟩ : ∃ H, H = s.heap := ⟨_, rfl⟩
  obtain ⟨locs, hlocs⟩ : ∃ z : List Loc, z = [] := ⟨_, rfl⟩
  have hP : va_P D vwCl [(o, .inr (6, [.int an, .ref q0, .ref q1, .ref q2, .ref q3])), (q0, .inl (cJ, ln, .inr (.inl ro))), (q1, .inl (cI, ln, .inl rv)), (q2, .inl (cJ, ln, .inr (.inl rd))), (q3, .inl (cI, ln, .inl rc))] H := by rw [hH]; exact hP
  have hS : va_S A s.heap H locs := by rw [hH, hlocs]; exact hS
  refine kx_gen hH hlocs ?_
  clear hH hlocs
  refine kx_nameQ (fun Q hQ => ?_)
  refine lv_lload_n hx hb dd_Rw_isBetter_0 rfl (lv_at hl 2 rfl) ?_
  refine lv_aload_n hx hb dd_Rw_isBetter_1 rfl (lv_at hl 0 rfl) ?_
  refine va_get (D := D) (ci := 6) (v := .ref q0) (C := rr_Rw) (T := tt_Rw) (N := 5) hx hb hts hin6 hown hK hP 0 kg_5_0 rfl 1 (by decide) lk0 (fun _ h9 => h9) rfl dd_Rw_isBetter_2 ?_
  refine lv_iload_n hx hb dd_Rw_isBetter_5 rfl (lv_at hl 1 rfl) ?_
  refine kx_lald (q0 := 1) (t0 := 1) hx hb dd_Rw_isBetter_6 hK hP kg_5_1 rfl (by omega) (by omega) ?_
  refine W.lcmp hx hb dd_Rw_isBetter_7 ?_
  refine lv_if_eq (tgt := 28) hx hb dd_Rw_isBetter_8 (by decide) (fun c8 => ?_) (fun c8 => ?_)
  · skip
    have c8 := (lg_cmp_eq _ _).mp c8
    refine lv_iload hx hb dd_Rw_isBetter_28 (lv_at hl 3 rfl) ?_
    refine lv_aload_n hx hb dd_Rw_isBetter_30 rfl (lv_at hl 0 rfl) ?_
    refine va_get (D := D) (ci := 6) (v := .ref q1) (C := rr_Rw) (T := tt_Rw) (N := 5) hx hb hts hin6 hown hK hP 0 kg_5_0 rfl 2 (by decide) lk2 (fun _ h9 => h9) rfl dd_Rw_isBetter_31 ?_
    refine lv_iload_n hx hb dd_Rw_isBetter_34 rfl (lv_at hl 1 rfl) ?_
    refine kx_iald (q0 := 2) (t0 := 0) hx hb dd_Rw_isBetter_35 hK hP kg_5_2 rfl (by omega) (by omega) ?_
    refine lv_icmp_eq (tgt := 56) hx hb dd_Rw_isBetter_36 (by decide) (fun c36 => ?_) (fun c36 => ?_)
    · skip
      refine lv_lload hx hb dd_Rw_isBetter_56 (lv_at hl 4 rfl) ?_
      refine lv_aload_n hx hb dd_Rw_isBetter_58 rfl (lv_at hl 0 rfl) ?_
      refine va_get (D := D) (ci := 6) (v := .ref q2) (C := rr_Rw) (T := tt_Rw) (N := 5) hx hb hts hin6 hown hK hP 0 kg_5_0 rfl 3 (by decide) lk3 (fun _ h9 => h9) rfl dd_Rw_isBetter_59 ?_
      refine lv_iload_n hx hb dd_Rw_isBetter_62 rfl (lv_at hl 1 rfl) ?_
      refine kx_lald (q0 := 3) (t0 := 1) hx hb dd_Rw_isBetter_63 hK hP kg_5_3 rfl (by omega) (by omega) ?_
      refine W.lcmp hx hb dd_Rw_isBetter_64 ?_
      refine lv_if_eq (tgt := 86) hx hb dd_Rw_isBetter_65 (by decide) (fun c65 => ?_) (fun c65 => ?_)
      · skip
        have c65 := (lg_cmp_eq _ _).mp c65
        refine lv_iload hx hb dd_Rw_isBetter_86 (lv_at hl 5 rfl) ?_
        refine lv_aload_n hx hb dd_Rw_isBetter_88 rfl (lv_at hl 0 rfl) ?_
        refine va_get (D := D) (ci := 6) (v := .ref q3) (C := rr_Rw) (T := tt_Rw) (N := 5) hx hb hts hin6 hown hK hP 0 kg_5_0 rfl 4 (by decide) lk4 (fun _ h9 => h9) rfl dd_Rw_isBetter_89 ?_
        refine lv_iload_n hx hb dd_Rw_isBetter_92 rfl (lv_at hl 1 rfl) ?_
        refine kx_iald (q0 := 4) (t0 := 0) hx hb dd_Rw_isBetter_93 hK hP kg_5_4 rfl (by omega) (by omega) ?_
        refine lv_icmp_ge (tgt := 101) hx hb dd_Rw_isBetter_94 (by decide) (fun c94 => ?_) (fun c94 => ?_)
        · skip
          refine lv_iconst (v := nI 0) hx hb dd_Rw_isBetter_101 (by decide) ?_
          rw [hQ]
          exact kx_zret hx hb hr hlocks hK hN hS dd_Rw_isBetter_102 (by decide) () hP hD (by first | (refine kb_t ?_; simp only [pk_bt, c8, c36, c65, c94, if_true, if_false, not_true, not_false_iff]; done) | (refine kb_f ?_; simp only [pk_bt, c8, c36, c65, c94, if_true, if_false, not_true, not_false_iff]; done))
        · skip
          refine lv_iconst (v := nI 1) hx hb dd_Rw_isBetter_97 (by decide) ?_
          refine lv_goto (tgt := 102) hx hb dd_Rw_isBetter_98 (by decide) ?_
          rw [hQ]
          exact kx_zret hx hb hr hlocks hK hN hS dd_Rw_isBetter_102 (by decide) () hP hD (by first | (refine kb_t ?_; simp only [pk_bt, c8, c36, c65, c94, if_true, if_false, not_true, not_false_iff]; done) | (refine kb_f ?_; simp only [pk_bt, c8, c36, c65, c94, if_true, if_false, not_true, not_false_iff]; done))
      · skip
        have c65 : ¬ (nd = (rd pl)) := fun h => c65 ((lg_cmp_eq _ _).mpr h)
        refine lv_lload hx hb dd_Rw_isBetter_68 (lv_at hl 4 rfl) ?_
        refine lv_aload_n hx hb dd_Rw_isBetter_70 rfl (lv_at hl 0 rfl) ?_
        refine va_get (D := D) (ci := 6) (v := .ref q2) (C := rr_Rw) (T := tt_Rw) (N := 5) hx hb hts hin6 hown hK hP 0 kg_5_0 rfl 3 (by decide) lk3 (fun _ h9 => h9) rfl dd_Rw_isBetter_71 ?_
        refine lv_iload_n hx hb dd_Rw_isBetter_74 rfl (lv_at hl 1 rfl) ?_
        refine kx_lald (q0 := 3) (t0 := 1) hx hb dd_Rw_isBetter_75 hK hP kg_5_3 rfl (by omega) (by omega) ?_
        refine W.lcmp hx hb dd_Rw_isBetter_76 ?_
        refine lv_if_ge (tgt := 84) hx hb dd_Rw_isBetter_77 (by decide) (fun c77 => ?_) (fun c77 => ?_)
        · skip
          have c77 := (lg_cmp_ge _ _).mp c77
          refine lv_iconst (v := nI 0) hx hb dd_Rw_isBetter_84 (by decide) ?_
          rw [hQ]
          exact kx_zret hx hb hr hlocks hK hN hS dd_Rw_isBetter_85 (by decide) () hP hD (by first | (refine kb_t ?_; simp only [pk_bt, c8, c36, c65, c77, if_true, if_false, not_true, not_false_iff]; done) | (refine kb_f ?_; simp only [pk_bt, c8, c36, c65, c77, if_true, if_false, not_true, not_false_iff]; done))
        · skip
          have c77 : ¬ ((rd pl) ≤ nd) := fun h => c77 ((lg_cmp_ge _ _).mpr h)
          refine lv_iconst (v := nI 1) hx hb dd_Rw_isBetter_80 (by decide) ?_
          refine lv_goto (tgt := 85) hx hb dd_Rw_isBetter_81 (by decide) ?_
          rw [hQ]
          exact kx_zret hx hb hr hlocks hK hN hS dd_Rw_isBetter_85 (by decide) () hP hD (by first | (refine kb_t ?_; simp only [pk_bt, c8, c36, c65, c77, if_true, if_false, not_true, not_false_iff]; done) | (refine kb_f ?_; simp only [pk_bt, c8, c36, c65, c77, if_true, if_false, not_true, not_false_iff]; done))
    · skip
      refine lv_iload hx hb dd_Rw_isBetter_39 (lv_at hl 3 rfl) ?_
      refine lv_aload_n hx hb dd_Rw_isBetter_41 rfl (lv_at hl 0 rfl) ?_
      refine va_get (D := D) (ci := 6) (v := .ref q1) (C := rr_Rw) (T := tt_Rw) (N := 5) hx hb hts hin6 hown hK hP 0 kg_5_0 rfl 2 (by decide) lk2 (fun _ h9 => h9) rfl dd_Rw_isBetter_42 ?_
      refine lv_iload_n hx hb dd_Rw_isBetter_45 rfl (lv_at hl 1 rfl) ?_
      refine kx_iald (q0 := 2) (t0 := 0) hx hb dd_Rw_isBetter_46 hK hP kg_5_2 rfl (by omega) (by omega) ?_
      refine lv_icmp_ge (tgt := 54) hx hb dd_Rw_isBetter_47 (by decide) (fun c47 => ?_) (fun c47 => ?_)
      · skip
        refine lv_iconst (v := nI 0) hx hb dd_Rw_isBetter_54 (by decide) ?_
        rw [hQ]
        exact kx_zret hx hb hr hlocks hK hN hS dd_Rw_isBetter_55 (by decide) () hP hD (by first | (refine kb_t ?_; simp only [pk_bt, c8, c36, c47, if_true, if_false, not_true, not_false_iff]; done) | (refine kb_f ?_; simp only [pk_bt, c8, c36, c47, if_true, if_false, not_true, not_false_iff]; done))
      · skip
        refine lv_iconst (v := nI 1) hx hb dd_Rw_isBetter_50 (by decide) ?_
        refine lv_goto (tgt := 55) hx hb dd_Rw_isBetter_51 (by decide) ?_
        rw [hQ]
        exact kx_zret hx hb hr hlocks hK hN hS dd_Rw_isBetter_55 (by decide) () hP hD (by first | (refine kb_t ?_; simp only [pk_bt, c8, c36, c47, if_true, if_false, not_true, not_false_iff]; done) | (refine kb_f ?_; simp only [pk_bt, c8, c36, c47, if_true, if_false, not_true, not_false_iff]; done))
  · skip
    have c8 : ¬ (no = (ro pl)) := fun h => c8 ((lg_cmp_eq _ _).mpr h)
    refine lv_lload_n hx hb dd_Rw_isBetter_11 rfl (lv_at hl 2 rfl) ?_
    refine lv_aload_n hx hb dd_Rw_isBetter_12 rfl (lv_at hl 0 rfl) ?_
    refine va_get (D := D) (ci := 6) (v := .ref q0) (C := rr_Rw) (T := tt_Rw) (N := 5) hx hb hts hin6 hown hK hP 0 kg_5_0 rfl 1 (by decide) lk0 (fun _ h9 => h9) rfl dd_Rw_isBetter_13 ?_
    refine lv_iload_n hx hb dd_Rw_isBetter_16 rfl (lv_at hl 1 rfl) ?_
    refine kx_lald (q0 := 1) (t0 := 1) hx hb dd_Rw_isBetter_17 hK hP kg_5_1 rfl (by omega) (by omega) ?_
    refine W.lcmp hx hb dd_Rw_isBetter_18 ?_
    refine lv_if_ge (tgt := 26) hx hb dd_Rw_isBetter_19 (by decide) (fun c19 => ?_) (fun c19 => ?_)
    · skip
      have c19 := (lg_cmp_ge _ _).mp c19
      refine lv_iconst (v := nI 0) hx hb dd_Rw_isBetter_26 (by decide) ?_
      rw [hQ]
      exact kx_zret hx hb hr hlocks hK hN hS dd_Rw_isBetter_27 (by decide) () hP hD (by first | (refine kb_t ?_; simp only [pk_bt, c8, c19, if_true, if_false, not_true, not_false_iff]; done) | (refine kb_f ?_; simp only [pk_bt, c8, c19, if_true, if_false, not_true, not_false_iff]; done))
    · skip
      have c19 : ¬ ((ro pl) ≤ no) := fun h => c19 ((lg_cmp_ge _ _).mpr h)
      refine lv_iconst (v := nI 1) hx hb dd_Rw_isBetter_22 (by decide) ?_
      refine lv_goto (tgt := 27) hx hb dd_Rw_isBetter_23 (by decide) ?_
      rw [hQ]
      exact kx_zret hx hb hr hlocks hK hN hS dd_Rw_isBetter_27 (by decide) () hP hD (by first | (refine kb_t ?_; simp only [pk_bt, c8, c19, if_true, if_false, not_true, not_false_iff]; done) | (refine kb_f ?_; simp only [pk_bt, c8, c19, if_true, if_false, not_true, not_false_iff]; done))
