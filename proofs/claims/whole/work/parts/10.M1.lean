theorem kt_0_ : ([] : List Nat).filterMap (fun i => ([] : va_W)[i]?) = ([] : va_W) := rfl
theorem ks_0_ : ([] : List Nat).map (fun i => ([] : va_W)[i]?) = ([] : va_W).map some := rfl
theorem kg_1_0 {c0 : Nat × va_E} : ([c0] : va_W)[0]? = some c0 := rfl
theorem kg_4_0 {c0 c1 c2 c3 : Nat × va_E} : ([c0, c1, c2, c3] : va_W)[0]? = some c0 := rfl
theorem kg_4_1 {c0 c1 c2 c3 : Nat × va_E} : ([c0, c1, c2, c3] : va_W)[1]? = some c1 := rfl
theorem kg_4_3 {c0 c1 c2 c3 : Nat × va_E} : ([c0, c1, c2, c3] : va_W)[3]? = some c3 := rfl
theorem kg_4_2 {c0 c1 c2 c3 : Nat × va_E} : ([c0, c1, c2, c3] : va_W)[2]? = some c2 := rfl
theorem kg_5_0 {c0 c1 c2 c3 c4 : Nat × va_E} : ([c0, c1, c2, c3, c4] : va_W)[0]? = some c0 := rfl
theorem kg_5_1 {c0 c1 c2 c3 c4 : Nat × va_E} : ([c0, c1, c2, c3, c4] : va_W)[1]? = some c1 := rfl
theorem kg_5_3 {c0 c1 c2 c3 c4 : Nat × va_E} : ([c0, c1, c2, c3, c4] : va_W)[3]? = some c3 := rfl
theorem kg_5_4 {c0 c1 c2 c3 c4 : Nat × va_E} : ([c0, c1, c2, c3, c4] : va_W)[4]? = some c4 := rfl
theorem kg_5_2 {c0 c1 c2 c3 c4 : Nat × va_E} : ([c0, c1, c2, c3, c4] : va_W)[2]? = some c2 := rfl
theorem kg_2_0 {c0 c1 : Nat × va_E} : ([c0, c1] : va_W)[0]? = some c0 := rfl
theorem kg_2_1 {c0 c1 : Nat × va_E} : ([c0, c1] : va_W)[1]? = some c1 := rfl
theorem kg_3_0 {c0 c1 c2 : Nat × va_E} : ([c0, c1, c2] : va_W)[0]? = some c0 := rfl
theorem kg_3_1 {c0 c1 c2 : Nat × va_E} : ([c0, c1, c2] : va_W)[1]? = some c1 := rfl
theorem kg_3_2 {c0 c1 c2 : Nat × va_E} : ([c0, c1, c2] : va_W)[2]? = some c2 := rfl
theorem kz_3_1 {c0 c1 c2 : Nat × va_E} {x : Nat × va_E} : ([c0, c1, c2] : va_W).set 1 x = [c0, x, c2] := rfl
theorem kz_3_2 {c0 c1 c2 : Nat × va_E} {x : Nat × va_E} : ([c0, c1, c2] : va_W).set 2 x = [c0, c1, x] := rfl
theorem kz_3_0 {c0 c1 c2 : Nat × va_E} {x : Nat × va_E} : ([c0, c1, c2] : va_W).set 0 x = [x, c1, c2] := rfl
theorem kg_8_0 {c0 c1 c2 c3 c4 c5 c6 c7 : Nat × va_E} : ([c0, c1, c2, c3, c4, c5, c6, c7] : va_W)[0]? = some c0 := rfl
theorem kg_8_6 {c0 c1 c2 c3 c4 c5 c6 c7 : Nat × va_E} : ([c0, c1, c2, c3, c4, c5, c6, c7] : va_W)[6]? = some c6 := rfl
theorem kg_8_1 {c0 c1 c2 c3 c4 c5 c6 c7 : Nat × va_E} : ([c0, c1, c2, c3, c4, c5, c6, c7] : va_W)[1]? = some c1 := rfl
theorem kg_8_2 {c0 c1 c2 c3 c4 c5 c6 c7 : Nat × va_E} : ([c0, c1, c2, c3, c4, c5, c6, c7] : va_W)[2]? = some c2 := rfl
theorem kz_8_6 {c0 c1 c2 c3 c4 c5 c6 c7 : Nat × va_E} {x : Nat × va_E} : ([c0, c1, c2, c3, c4, c5, c6, c7] : va_W).set 6 x = [c0, c1, c2, c3, c4, c5, x, c7] := rfl
theorem kz_8_0 {c0 c1 c2 c3 c4 c5 c6 c7 : Nat × va_E} {x : Nat × va_E} : ([c0, c1, c2, c3, c4, c5, c6, c7] : va_W).set 0 x = [x, c1, c2, c3, c4, c5, c6, c7] := rfl
theorem kg_8_7 {c0 c1 c2 c3 c4 c5 c6 c7 : Nat × va_E} : ([c0, c1, c2, c3, c4, c5, c6, c7] : va_W)[7]? = some c7 := rfl
theorem kz_8_7 {c0 c1 c2 c3 c4 c5 c6 c7 : Nat × va_E} {x : Nat × va_E} : ([c0, c1, c2, c3, c4, c5, c6, c7] : va_W).set 7 x = [c0, c1, c2, c3, c4, c5, c6, x] := rfl
theorem kg_8_4 {c0 c1 c2 c3 c4 c5 c6 c7 : Nat × va_E} : ([c0, c1, c2, c3, c4, c5, c6, c7] : va_W)[4]? = some c4 := rfl
theorem kg_8_3 {c0 c1 c2 c3 c4 c5 c6 c7 : Nat × va_E} : ([c0, c1, c2, c3, c4, c5, c6, c7] : va_W)[3]? = some c3 := rfl
theorem kg_8_5 {c0 c1 c2 c3 c4 c5 c6 c7 : Nat × va_E} : ([c0, c1, c2, c3, c4, c5, c6, c7] : va_W)[5]? = some c5 := rfl
theorem kw_53 : Cond.initialized rr_M ∈ kx_T := kx_in (i := 53) (by decide +kernel) (by decide +kernel)
theorem kw_798 : Cond.fieldLink rr_M (71) "LineDeskModel" "thrown" "I" ∈ kx_T := kx_in (i := 798) (by decide +kernel) (by decide +kernel)
theorem kw_799 : Cond.fieldLink rr_M (85) "LineDeskModel" "count" "I" ∈ kx_T := kx_in (i := 799) (by decide +kernel) (by decide +kernel)
theorem kw_800 : Cond.fieldLink rr_M (7) "LineDeskModel" "kind" "[I" ∈ kx_T := kx_in (i := 800) (by decide +kernel) (by decide +kernel)
theorem kw_801 : Cond.fieldLink rr_M (13) "LineDeskModel" "wide" "[I" ∈ kx_T := kx_in (i := 801) (by decide +kernel) (by decide +kernel)
theorem kw_802 : Cond.fieldLink rr_M (16) "LineDeskModel" "stretch" "[I" ∈ kx_T := kx_in (i := 802) (by decide +kernel) (by decide +kernel)
theorem kw_803 : Cond.fieldLink rr_M (19) "LineDeskModel" "order" "[I" ∈ kx_T := kx_in (i := 803) (by decide +kernel) (by decide +kernel)
theorem kw_804 : Cond.fieldLink rr_M (22) "LineDeskModel" "shrink" "[I" ∈ kx_T := kx_in (i := 804) (by decide +kernel) (by decide +kernel)
theorem kw_805 : Cond.fieldLink rr_M (25) "LineDeskModel" "rules" "[I" ∈ kx_T := kx_in (i := 805) (by decide +kernel) (by decide +kernel)
theorem kw_809 : Cond.fieldLink rr_M (92) "LineDeskModel" "pass" "I" ∈ kx_T := kx_in (i := 809) (by decide +kernel) (by decide +kernel)
theorem kw_817 : Cond.fieldLink rr_M (59) "LineDeskModel" "sums" "[J" ∈ kx_T := kx_in (i := 817) (by decide +kernel) (by decide +kernel)
theorem kw_818 : Cond.fieldLink rr_M (62) "LineDeskModel" "kept" "[J" ∈ kx_T := kx_in (i := 818) (by decide +kernel) (by decide +kernel)
theorem kw_819 : Cond.fieldLink rr_M (109) "LineDeskModel" "keptFrom" "I" ∈ kx_T := kx_in (i := 819) (by decide +kernel) (by decide +kernel)
theorem kw_820 : Cond.fieldLink rr_M (126) "LineDeskModel" "lineBad" "I" ∈ kx_T := kx_in (i := 820) (by decide +kernel) (by decide +kernel)
theorem kw_822 : Cond.fieldLink rr_M (118) "LineDeskModel" "lineOut" "J" ∈ kx_T := kx_in (i := 822) (by decide +kernel) (by decide +kernel)
theorem kw_919 : Cond.methodLink rr_M (76) yy_M_in ∈ kx_T := kx_in (i := 919) (by decide +kernel) (by decide +kernel)
theorem kw_920 : Cond.static yy_M_in ∈ kx_T := kx_in (i := 920) (by decide +kernel) (by decide +kernel)
set_option maxRecDepth 100000 in
theorem kw_921 : Cond.code yy_M_in bb_M_in 3 (some .boolean) ∈ kx_T := kx_in (i := 921) rfl (by decide +kernel)
theorem kw_929 : Cond.constant rr_M (74) (-1073741823) ∈ kx_T := kx_in (i := 929) (by decide +kernel) (by decide +kernel)
theorem kw_930 : Cond.constant rr_M (75) (1073741823) ∈ kx_T := kx_in (i := 930) (by decide +kernel) (by decide +kernel)
theorem kw_1010 : Cond.constantLong rr_M (101) (297) ∈ kx_T := kx_in (i := 1010) (by decide +kernel) (by decide +kernel)
theorem kw_1011 : Cond.constantLong rr_M (103) (1290) ∈ kx_T := kx_in (i := 1011) (by decide +kernel) (by decide +kernel)
theorem kw_1012 : Cond.constantLong rr_M (105) (131072) ∈ kx_T := kx_in (i := 1012) (by decide +kernel) (by decide +kernel)
theorem kw_1013 : Cond.constantLong rr_M (107) (262144) ∈ kx_T := kx_in (i := 1013) (by decide +kernel) (by decide +kernel)
/-! the reference's leaves: what they say, in numbers -/
abbrev pm_br (kd wd od : Nat → Int32) (cn ps i : Nat) : Prop := if i = cn then True else if kd i = nI 1 then (0 < i ∧ (kd (i - 1) = 0 ∨ kd (i - 1) = nI 4)) else if kd i = nI 2 then (i + 1 < cn ∧ kd (i + 1) = nI 1) else if kd i = nI 3 then wd i < nI 10000 else (kd i = nI 4 ∧ (1 < ps ∨ od i &&& nI 4 = 0))
def pm_pen (kd wd od ru : Nat → Int32) (cn i : Nat) : Int32 := if i = cn then (-10000) else if kd i = nI 3 then wd i else if kd i = nI 4 then (if od i &&& nI 1 = nI 1 then ru 3 else ru 4) else nI 0
def pm_bad (t s : Int64) : Int32 := if t = 0 then nI 0 else if s = 0 then nI 10000 else if 297 * t / s ≤ 1290 then ((297 * t / s * (297 * t / s) * (297 * t / s) + 131072) / 262144).toInt32 else nI 10000
def pm_ab (lb t : Int32) : Nat := if lb ≤ t then 0 else 1
/-- what an item adds to the k-th of the six sums -/
def pm_it (kd wd sr od sk : Nat → Int32) (i k : Nat) : Int64 := if k = 0 then (if kd i = nI 3 then 0 else (wd i).toInt64) else if kd i = nI 1 then (if k = 5 then (sk i).toInt64 else if od i = nI (k - 1) then (sr i).toInt64 else 0) else 0
def pm_c1 (b : Int32) : Nat := if b ≤ nI 99 then (if b ≤ nI 12 then 2 else 1) else 0
def pm_c2 (b : Int32) : Nat := if b ≤ nI 12 then 2 else 3
theorem pm_6 {P : Nat → Prop} (h0 : P 0) (h1 : P 1) (h2 : P 2) (h3 : P 3) (h4 : P 4) (h5 : P 5) : ∀ k, k < 6 → P k := fun k hk => by
  rcases (show k = 0 ∨ k = 1 ∨ k = 2 ∨ k = 3 ∨ k = 4 ∨ k = 5 by omega) with h | h | h | h | h | h <;> subst h <;> assumption
theorem pm_upd {f : Nat → Int64} {k j : Nat} {x : Int64} : vp_updL f k x j = if j = k then x else f j := rfl
theorem pm_take1 {su s1 : Nat → Int64} {kd wd sr od sk : Nat → Int32} {i : Nat} {v : Int64} (h : ¬ kd i = nI 1) (ev : v = if kd i = nI 3 then 0 else (wd i).toInt64) (e1 : s1 = vp_updL su 0 (su 0 + v)) : ∀ k, k < 6 → s1 k = su k + pm_it kd wd sr od sk i k := by
  intro k hk
  subst e1
  subst ev
  simp only [pm_upd, pm_it, h, if_false]
  by_cases hk0 : k = 0
  · simp [hk0]
  · simp [hk0]
theorem pm_take2 {su s1 s2 s3 : Nat → Int64} {kd wd sr od sk : Nat → Int32} {i og : Nat} {v : Int64} (h : kd i = nI 1) (ho : od i = nI og) (h3 : og ≤ 3) (ev : v = if kd i = nI 3 then 0 else (wd i).toInt64) (e1 : s1 = vp_updL su 0 (su 0 + v)) (e2 : s2 = vp_updL s1 (1 + og) (s1 (1 + og) + (sr i).toInt64)) (e3 : s3 = vp_updL s2 5 (s2 5 + (sk i).toInt64)) : ∀ k, k < 6 → s3 k = su k + pm_it kd wd sr od sk i k := by
  intro k hk
  have n0 : ¬ (1 + og = 0) := by omega
  have n5 : ¬ (5 = 1 + og) := by omega
  subst e3
  subst e2
  subst e1
  subst ev
  simp only [pm_upd, pm_it, if_pos h, ho, n0, n5, if_false]
  by_cases h5 : k = 5
  · subst h5; simp
  · by_cases hk0 : k = 0
    · subst hk0
      have : ¬ (0 = 1 + og) := by omega
      simp [this]
    · by_cases hk1 : k = 1 + og
      · subst hk1
        have : nI og = nI (1 + og - 1) := by rw [show 1 + og - 1 = og by omega]
        simp [h5, this, n0]
      · have : ¬ nI og = nI (k - 1) := fun q => by
          have := (nI_eq (by omega) (by omega)).mp q
          omega
        simp [h5, hk0, hk1, this]
theorem dd_M_in_0 : decode bb_M_in 0 = .ok (.iload_n 0, 1) := by decide +kernel
theorem dd_M_in_1 : decode bb_M_in 1 = .ok (.iload_n 1, 1) := by decide +kernel
theorem dd_M_in_2 : decode bb_M_in 2 = .ok (.if_icmp .lt (12), 3) := by decide +kernel
theorem dd_M_in_5 : decode bb_M_in 5 = .ok (.iload_n 0, 1) := by decide +kernel
theorem dd_M_in_6 : decode bb_M_in 6 = .ok (.iload_n 2, 1) := by decide +kernel
theorem dd_M_in_7 : decode bb_M_in 7 = .ok (.if_icmp .gt (7), 3) := by decide +kernel
theorem dd_M_in_10 : decode bb_M_in 10 = .ok (.iconst 1, 1) := by decide +kernel
theorem dd_M_in_11 : decode bb_M_in 11 = .ok (.goto (4), 3) := by decide +kernel
theorem dd_M_in_14 : decode bb_M_in 14 = .ok (.iconst 0, 1) := by decide +kernel
theorem dd_M_in_15 : decode bb_M_in 15 = .ok (.ireturn, 1) := by decide +kernel

set_option maxHeartbeats 4000000 in
set_option maxRecDepth 100000 in
theorem ct_M_in (l : Launch) (D : va_G) (cI cJ cZ : ClassId) (sz : Nat) (v : Int32) (lo : Int32) (hi : Int32) : kx_Mi l yy_M_in ww_M_in ({ frames := 0, cells := 0, slots := 0, locals := 0 }) D vwCl (kx_ty cI cJ cZ) [.int v, .int lo, .int hi] [] sz (fun (r : Int32) (u : Unit) => r = kb_p (¬ v < lo ∧ ¬ hi < v)) (fun (u : Unit) => []) 0 0 := by
  refine kx_starti (by decide) rfl (Nat.le_of_ble_eq_true rfl) ?_
  intro p e s m below meth c A ls hx hb hr hml hts hown hlocks hin hP hK hN hD hA hS hl
  have hl : lv_has ls 3 [(0, .int v), (1, .int lo), (2, .int hi)] := hl
  have hown : s.vm.findClass rr_M = some m.cls := hown
  obtain ⟨H, hH⟩ : ∃ H, H = s.heap := ⟨_, rfl⟩
  obtain ⟨locs, hlocs⟩ : ∃ z : List Loc, z = [] := ⟨_, rfl⟩
  have hP : va_P D vwCl [] H := by rw [hH]; exact hP
  have hS : va_S A s.heap H locs := by rw [hH, hlocs]; exact hS
  refine kx_gen hH hlocs ?_
  clear hH hlocs
  refine kx_nameQ (fun Q hQ => ?_)
  refine lv_iload_n hx hb dd_M_in_0 rfl (lv_at hl 0 rfl) ?_
  refine lv_iload_n hx hb dd_M_in_1 rfl (lv_at hl 1 rfl) ?_
  refine lv_icmp_lt (tgt := 14) hx hb dd_M_in_2 (by decide) (fun c2 => ?_) (fun c2 => ?_)
  · skip
    refine lv_iconst (v := nI 0) hx hb dd_M_in_14 (by decide) ?_
    rw [hQ]
    exact kx_zret hx hb hr hlocks hK hN hS dd_M_in_15 (by decide) () hP hD (by clear hP hD hS hK hl hts; first | (refine kb_t ?_; simp_all; done) | (refine kb_f ?_; simp_all; done) | (refine kb_t ?_; simp_all <;> (intros; omega)) | (refine kb_f ?_; simp_all <;> (intros; omega)))
  · skip
    refine lv_iload_n hx hb dd_M_in_5 rfl (lv_at hl 0 rfl) ?_
    refine lv_iload_n hx hb dd_M_in_6 rfl (lv_at hl 2 rfl) ?_
    refine lv_icmp_gt (tgt := 14) hx hb dd_M_in_7 (by decide) (fun c7 => ?_) (fun c7 => ?_)
    · skip
      refine lv_iconst (v := nI 0) hx hb dd_M_in_14 (by decide) ?_
      rw [hQ]
      exact kx_zret hx hb hr hlocks hK hN hS dd_M_in_15 (by decide) () hP hD (by clear hP hD hS hK hl hts; first | (refine kb_t ?_; simp_all; done) | (refine kb_f ?_; simp_all; done) | (refine kb_t ?_; simp_all <;> (intros; omega)) | (refine kb_f ?_; simp_all <;> (intros; omega)))
    · skip
      refine lv_iconst (v := nI 1) hx hb dd_M_in_10 (by decide) ?_
      refine lv_goto (tgt := 15) hx hb dd_M_in_11 (by decide) ?_
      rw [hQ]
      exact kx_zret hx hb hr hlocks hK hN hS dd_M_in_15 (by decide) () hP hD (by clear hP hD hS hK hl hts; first | (refine kb_t ?_; simp_all; done) | (refine kb_f ?_; simp_all; done) | (refine kb_t ?_; simp_all <;> (intros; omega)) | (refine kb_f ?_; simp_all <;> (intros; omega)))

theorem dd_M_isWidth_0 : decode bb_M_isWidth 0 = .ok (.iload_n 0, 1) := by decide +kernel
theorem dd_M_isWidth_1 : decode bb_M_isWidth 1 = .ok (.ldc 74, 2) := by decide +kernel
theorem dd_M_isWidth_3 : decode bb_M_isWidth 3 = .ok (.ldc 75, 2) := by decide +kernel
theorem dd_M_isWidth_5 : decode bb_M_isWidth 5 = .ok (.invokestatic 76, 3) := by decide +kernel
theorem dd_M_isWidth_8 : decode bb_M_isWidth 8 = .ok (.ireturn, 1) := by decide +kernel

set_option maxHeartbeats 4000000 in
set_option maxRecDepth 100000 in
theorem ct_M_isWidth (l : Launch) (D : va_G) (cI cJ cZ : ClassId) (sz : Nat) (v : Int32) : kx_Mi l yy_M_isWidth ww_M_isWidth ({ frames := 1, cells := 0, slots := 0, locals := 22 }) D vwCl (kx_ty cI cJ cZ) [.int v] [] sz (fun (r : Int32) (u : Unit) => r = kb_p (¬ v < (-1073741823) ∧ ¬ nI 1073741823 < v)) (fun (u : Unit) => []) 0 0 := by
  refine kx_starti (by decide) rfl (Nat.le_of_ble_eq_true rfl) ?_
  intro p e s m below meth c A ls hx hb hr hml hts hown hlocks hin hP hK hN hD hA hS hl
  have hl : lv_has ls 1 [(0, .int v)] := hl
  have hown : s.vm.findClass rr_M = some m.cls := hown
  have lk0 := hts _ (kx_m kw_929)
  have lk1 := hts _ (kx_m kw_930)
  obtain ⟨H, hH⟩ : ∃ H, H = s.heap := ⟨_, rfl⟩
  obtain ⟨locs, hlocs⟩ : ∃ z : List Loc, z = [] := ⟨_, rfl⟩
  have hP : va_P D vwCl [] H := by rw [hH]; exact hP
  have hS : va_S A s.heap H locs := by rw [hH, hlocs]; exact hS
  refine kx_gen hH hlocs ?_
  clear hH hlocs
  refine kx_nameQ (fun Q hQ => ?_)
  refine lv_iload_n hx hb dd_M_isWidth_0 rfl (lv_at hl 0 rfl) ?_
  refine lv_ldc (v := (-1073741823)) hx hb hown lk0 dd_M_isWidth_1 ?_
  refine lv_ldc (v := nI 1073741823) hx hb hown lk1 dd_M_isWidth_3 ?_
  refine kx_calli (wr := []) (va_runS (As := [.int v, .int (-1073741823), .int (nI 1073741823)]) (rest := []) ⟨hx, hb, hml, hown, hts⟩ (ct_M_in l D cI cJ cZ H.size v (-1073741823) (nI 1073741823)) ⟨(callB_of 3 hts (kx_good kw_921) rfl rfl rfl (hts _ (kx_m kw_53)) (hts _ (kx_m kw_919)) (by decide +kernel) ⟨Nat.le_of_ble_eq_true rfl, Nat.le_of_ble_eq_true rfl⟩), (hts _ (kx_m kw_920))⟩ (kx_preS hK hN (hP.sub [] kt_0_) (hD.sub [] (by decide) ks_0_)) rfl rfl hl.1 rfl (lv_room (Nat.le_of_ble_eq_true rfl)) dd_M_isWidth_5 ⟨Nat.le_of_ble_eq_true rfl, Nat.le_of_ble_eq_true rfl⟩) hP hD hS hA [] [] ks_0_ ks_0_ (by decide) (by decide) (fun r5 u5 H locs hw5 hP hD hS => ?_)
  have hP : va_P D vwCl [] H := hP
  have hD : va_D A [] := hD
  have hw5 : r5 = kb_p (¬ v < (-1073741823) ∧ ¬ (nI 1073741823) < v) := hw5
  subst hw5
  rw [hQ]
  exact kx_zret hx hb hr hlocks hK hN hS dd_M_isWidth_8 kb_nar () hP hD rfl

theorem dd_M_thrown_0 : decode bb_M_thrown 0 = .ok (.aload_n 0, 1) := by decide +kernel
theorem dd_M_thrown_1 : decode bb_M_thrown 1 = .ok (.getfield 71, 3) := by decide +kernel
theorem dd_M_thrown_4 : decode bb_M_thrown 4 = .ok (.ireturn, 1) := by decide +kernel

set_option maxHeartbeats 4000000 in
set_option maxRecDepth 100000 in
theorem ct_M_thrown (l : Launch) (D : va_G) (cI cJ cZ : ClassId) (sz : Nat) (o : Nat) (th : Nat) (cn : Nat) (a0 : Nat) (a1 : Nat) (a2 : Nat) (a3 : Nat) (a4 : Nat) (a5 : Nat) (mn : Nat) (a6 : Nat) (a7 : Nat) (ps : Nat) (bk : Nat) (a8 : Nat) (a9 : Nat) (a10 : Nat) (a11 : Nat) (a12 : Nat) (a13 : Nat) (a14 : Nat) (a15 : Nat) (kf : Nat) (lb : Int32) (lc : Nat) (lo : Int64) (el : Nat) (ec : Nat) (eo : Int64) (eb : Int32) (ed : Int64) (mp : Nat) (ml : Nat) (md : Int64) (mo : Int64) (mb : Int32) (a16 : Nat) (a17 : Nat) : kx_Mi l yy_M_thrown ww_M_thrown ({ frames := 0, cells := 0, slots := 0, locals := 0 }) D vwCl (kx_ty cI cJ cZ) [.ref o] [(o, .inr (0, [.int (nI th), .int (nI cn), .ref a0, .ref a1, .ref a2, .ref a3, .ref a4, .ref a5, .int (nI mn), .ref a6, .ref a7, .int (nI ps), .int (nI bk), .ref a8, .ref a9, .ref a10, .ref a11, .ref a12, .ref a13, .ref a14, .ref a15, .int (nI kf), .int lb, .int (nI lc), .long lo, .int (nI el), .int (nI ec), .long eo, .int eb, .long ed, .int (nI mp), .int (nI ml), .long md, .long mo, .int mb, .ref a16, .ref a17]))] sz (fun (r : Int32) (u : Unit) => r = nI th) (fun (u : Unit) => [(o, .inr (0, [.int (nI th), .int (nI cn), .ref a0, .ref a1, .ref a2, .ref a3, .ref a4, .ref a5, .int (nI mn), .ref a6, .ref a7, .int (nI ps), .int (nI bk), .ref a8, .ref a9, .ref a10, .ref a11, .ref a12, .ref a13, .ref a14, .ref a15, .int (nI kf), .int lb, .int (nI lc), .long lo, .int (nI el), .int (nI ec), .long eo, .int eb, .long ed, .int (nI mp), .int (nI ml), .long md, .long mo, .int mb, .ref a16, .ref a17]))]) 0 0 := by
  refine kx_starti (by decide) rfl (Nat.le_of_ble_eq_true rfl) ?_
  intro p e s m below meth c A ls hx hb hr hml hts hown hlocks hin hP hK hN hD hA hS hl
  have hl : lv_has ls 1 [(0, .ref o)] := hl
  have hown : s.vm.findClass rr_M = some m.cls := hown
  have lk0 := hts _ (kx_m kw_798)
  have hin0 : ∀ w ∈ u_ws rr_M tt_M 37, w ∈ ww_M_thrown := fun w h => kx_m (kf_M w h)
  obtain ⟨H, hH⟩ : ∃ H, H = s.heap := ⟨_, rfl⟩
  obtain ⟨locs, hlocs⟩ : ∃ z : List Loc, z = [] := ⟨_, rfl⟩
  have hP : va_P D vwCl [(o, .inr (0, [.int (nI th), .int (nI cn), .ref a0, .ref a1, .ref a2, .ref a3, .ref a4, .ref a5, .int (nI mn), .ref a6, .ref a7, .int (nI ps), .int (nI bk), .ref a8, .ref a9, .ref a10, .ref a11, .ref a12, .ref a13, .ref a14, .ref a15, .int (nI kf), .int lb, .int (nI lc), .long lo, .int (nI el), .int (nI ec), .long eo, .int eb, .long ed, .int (nI mp), .int (nI ml), .long md, .long mo, .int mb, .ref a16, .ref a17]))] H := by rw [hH]; exact hP
  have hS : va_S A s.heap H locs := by rw [hH, hlocs]; exact hS
  refine kx_gen hH hlocs ?_
  clear hH hlocs
  refine kx_nameQ (fun Q hQ => ?_)
  refine lv_aload_n hx hb dd_M_thrown_0 rfl (lv_at hl 0 rfl) ?_
  refine va_get (D := D) (ci := 0) (v := .int (nI th)) (C := rr_M) (T := tt_M) (N := 37) hx hb hts hin0 hown hK hP 0 kg_1_0 rfl 0 (by decide) lk0 (fun _ h9 => h9) rfl dd_M_thrown_1 ?_
  rw [hQ]
  exact kx_iret hx hb hr hlocks hK hN hS dd_M_thrown_4 () hP hD rfl

theorem dd_M_isBreak_0 : decode bb_M_isBreak 0 = .ok (.iload_n 1, 1) := by decide +kernel
theorem dd_M_isBreak_1 : decode bb_M_isBreak 1 = .ok (.aload_n 0, 1) := by decide +kernel
theorem dd_M_isBreak_2 : decode bb_M_isBreak 2 = .ok (.getfield 85, 3) := by decide +kernel
theorem dd_M_isBreak_5 : decode bb_M_isBreak 5 = .ok (.if_icmp .ne (5), 3) := by decide +kernel
theorem dd_M_isBreak_8 : decode bb_M_isBreak 8 = .ok (.iconst 1, 1) := by decide +kernel
theorem dd_M_isBreak_9 : decode bb_M_isBreak 9 = .ok (.ireturn, 1) := by decide +kernel
theorem dd_M_isBreak_10 : decode bb_M_isBreak 10 = .ok (.aload_n 0, 1) := by decide +kernel
theorem dd_M_isBreak_11 : decode bb_M_isBreak 11 = .ok (.getfield 7, 3) := by decide +kernel
theorem dd_M_isBreak_14 : decode bb_M_isBreak 14 = .ok (.iload_n 1, 1) := by decide +kernel
theorem dd_M_isBreak_15 : decode bb_M_isBreak 15 = .ok (.iaload, 1) := by decide +kernel
theorem dd_M_isBreak_16 : decode bb_M_isBreak 16 = .ok (.istore_n 2, 1) := by decide +kernel
theorem dd_M_isBreak_17 : decode bb_M_isBreak 17 = .ok (.iload_n 2, 1) := by decide +kernel
theorem dd_M_isBreak_18 : decode bb_M_isBreak 18 = .ok (.iconst 1, 1) := by decide +kernel
theorem dd_M_isBreak_19 : decode bb_M_isBreak 19 = .ok (.if_icmp .ne (36), 3) := by decide +kernel
theorem dd_M_isBreak_22 : decode bb_M_isBreak 22 = .ok (.iload_n 1, 1) := by decide +kernel
theorem dd_M_isBreak_23 : decode bb_M_isBreak 23 = .ok (.ifCond .le (30), 3) := by decide +kernel
theorem dd_M_isBreak_26 : decode bb_M_isBreak 26 = .ok (.aload_n 0, 1) := by decide +kernel
theorem dd_M_isBreak_27 : decode bb_M_isBreak 27 = .ok (.getfield 7, 3) := by decide +kernel
theorem dd_M_isBreak_30 : decode bb_M_isBreak 30 = .ok (.iload_n 1, 1) := by decide +kernel
theorem dd_M_isBreak_31 : decode bb_M_isBreak 31 = .ok (.iconst 1, 1) := by decide +kernel
theorem dd_M_isBreak_32 : decode bb_M_isBreak 32 = .ok (.isub, 1) := by decide +kernel
theorem dd_M_isBreak_33 : decode bb_M_isBreak 33 = .ok (.iaload, 1) := by decide +kernel
theorem dd_M_isBreak_34 : decode bb_M_isBreak 34 = .ok (.ifCond .eq (15), 3) := by decide +kernel
theorem dd_M_isBreak_37 : decode bb_M_isBreak 37 = .ok (.aload_n 0, 1) := by decide +kernel
theorem dd_M_isBreak_38 : decode bb_M_isBreak 38 = .ok (.getfield 7, 3) := by decide +kernel
theorem dd_M_isBreak_41 : decode bb_M_isBreak 41 = .ok (.iload_n 1, 1) := by decide +kernel
theorem dd_M_isBreak_42 : decode bb_M_isBreak 42 = .ok (.iconst 1, 1) := by decide +kernel
theorem dd_M_isBreak_43 : decode bb_M_isBreak 43 = .ok (.isub, 1) := by decide +kernel
theorem dd_M_isBreak_44 : decode bb_M_isBreak 44 = .ok (.iaload, 1) := by decide +kernel
theorem dd_M_isBreak_45 : decode bb_M_isBreak 45 = .ok (.iconst 4, 1) := by decide +kernel
theorem dd_M_isBreak_46 : decode bb_M_isBreak 46 = .ok (.if_icmp .ne (7), 3) := by decide +kernel
theorem dd_M_isBreak_49 : decode bb_M_isBreak 49 = .ok (.iconst 1, 1) := by decide +kernel
theorem dd_M_isBreak_50 : decode bb_M_isBreak 50 = .ok (.goto (4), 3) := by decide +kernel
theorem dd_M_isBreak_53 : decode bb_M_isBreak 53 = .ok (.iconst 0, 1) := by decide +kernel
theorem dd_M_isBreak_54 : decode bb_M_isBreak 54 = .ok (.ireturn, 1) := by decide +kernel
theorem dd_M_isBreak_55 : decode bb_M_isBreak 55 = .ok (.iload_n 2, 1) := by decide +kernel
theorem dd_M_isBreak_56 : decode bb_M_isBreak 56 = .ok (.iconst 2, 1) := by decide +kernel
theorem dd_M_isBreak_57 : decode bb_M_isBreak 57 = .ok (.if_icmp .ne (31), 3) := by decide +kernel
theorem dd_M_isBreak_60 : decode bb_M_isBreak 60 = .ok (.iload_n 1, 1) := by decide +kernel
theorem dd_M_isBreak_61 : decode bb_M_isBreak 61 = .ok (.iconst 1, 1) := by decide +kernel
theorem dd_M_isBreak_62 : decode bb_M_isBreak 62 = .ok (.iadd, 1) := by decide +kernel
theorem dd_M_isBreak_63 : decode bb_M_isBreak 63 = .ok (.aload_n 0, 1) := by decide +kernel
theorem dd_M_isBreak_64 : decode bb_M_isBreak 64 = .ok (.getfield 85, 3) := by decide +kernel
theorem dd_M_isBreak_67 : decode bb_M_isBreak 67 = .ok (.if_icmp .ge (19), 3) := by decide +kernel
theorem dd_M_isBreak_70 : decode bb_M_isBreak 70 = .ok (.aload_n 0, 1) := by decide +kernel
theorem dd_M_isBreak_71 : decode bb_M_isBreak 71 = .ok (.getfield 7, 3) := by decide +kernel
theorem dd_M_isBreak_74 : decode bb_M_isBreak 74 = .ok (.iload_n 1, 1) := by decide +kernel
theorem dd_M_isBreak_75 : decode bb_M_isBreak 75 = .ok (.iconst 1, 1) := by decide +kernel
theorem dd_M_isBreak_76 : decode bb_M_isBreak 76 = .ok (.iadd, 1) := by decide +kernel
theorem dd_M_isBreak_77 : decode bb_M_isBreak 77 = .ok (.iaload, 1) := by decide +kernel
theorem dd_M_isBreak_78 : decode bb_M_isBreak 78 = .ok (.iconst 1, 1) := by decide +kernel
theorem dd_M_isBreak_79 : decode bb_M_isBreak 79 = .ok (.if_icmp .ne (7), 3) := by decide +kernel
theorem dd_M_isBreak_82 : decode bb_M_isBreak 82 = .ok (.iconst 1, 1) := by decide +kernel
theorem dd_M_isBreak_83 : decode bb_M_isBreak 83 = .ok (.goto (4), 3) := by decide +kernel
theorem dd_M_isBreak_86 : decode bb_M_isBreak 86 = .ok (.iconst 0, 1) := by decide +kernel
theorem dd_M_isBreak_87 : decode bb_M_isBreak 87 = .ok (.ireturn, 1) := by decide +kernel
theorem dd_M_isBreak_88 : decode bb_M_isBreak 88 = .ok (.iload_n 2, 1) := by decide +kernel
theorem dd_M_isBreak_89 : decode bb_M_isBreak 89 = .ok (.iconst 3, 1) := by decide +kernel
theorem dd_M_isBreak_90 : decode bb_M_isBreak 90 = .ok (.if_icmp .ne (23), 3) := by decide +kernel
theorem dd_M_isBreak_93 : decode bb_M_isBreak 93 = .ok (.aload_n 0, 1) := by decide +kernel
theorem dd_M_isBreak_94 : decode bb_M_isBreak 94 = .ok (.getfield 13, 3) := by decide +kernel
theorem dd_M_isBreak_97 : decode bb_M_isBreak 97 = .ok (.iload_n 1, 1) := by decide +kernel
theorem dd_M_isBreak_98 : decode bb_M_isBreak 98 = .ok (.iaload, 1) := by decide +kernel
theorem dd_M_isBreak_99 : decode bb_M_isBreak 99 = .ok (.sipush (10000), 3) := by decide +kernel
theorem dd_M_isBreak_102 : decode bb_M_isBreak 102 = .ok (.if_icmp .ge (7), 3) := by decide +kernel
theorem dd_M_isBreak_105 : decode bb_M_isBreak 105 = .ok (.iconst 1, 1) := by decide +kernel
theorem dd_M_isBreak_106 : decode bb_M_isBreak 106 = .ok (.goto (36), 3) := by decide +kernel
theorem dd_M_isBreak_109 : decode bb_M_isBreak 109 = .ok (.iconst 0, 1) := by decide +kernel
theorem dd_M_isBreak_110 : decode bb_M_isBreak 110 = .ok (.goto (32), 3) := by decide +kernel
theorem dd_M_isBreak_113 : decode bb_M_isBreak 113 = .ok (.iload_n 2, 1) := by decide +kernel
theorem dd_M_isBreak_114 : decode bb_M_isBreak 114 = .ok (.iconst 4, 1) := by decide +kernel
theorem dd_M_isBreak_115 : decode bb_M_isBreak 115 = .ok (.if_icmp .ne (26), 3) := by decide +kernel
theorem dd_M_isBreak_118 : decode bb_M_isBreak 118 = .ok (.aload_n 0, 1) := by decide +kernel
theorem dd_M_isBreak_119 : decode bb_M_isBreak 119 = .ok (.getfield 92, 3) := by decide +kernel
theorem dd_M_isBreak_122 : decode bb_M_isBreak 122 = .ok (.iconst 1, 1) := by decide +kernel
theorem dd_M_isBreak_123 : decode bb_M_isBreak 123 = .ok (.if_icmp .gt (14), 3) := by decide +kernel
theorem dd_M_isBreak_126 : decode bb_M_isBreak 126 = .ok (.aload_n 0, 1) := by decide +kernel
theorem dd_M_isBreak_127 : decode bb_M_isBreak 127 = .ok (.getfield 19, 3) := by decide +kernel
theorem dd_M_isBreak_130 : decode bb_M_isBreak 130 = .ok (.iload_n 1, 1) := by decide +kernel
theorem dd_M_isBreak_131 : decode bb_M_isBreak 131 = .ok (.iaload, 1) := by decide +kernel
theorem dd_M_isBreak_132 : decode bb_M_isBreak 132 = .ok (.iconst 4, 1) := by decide +kernel
theorem dd_M_isBreak_133 : decode bb_M_isBreak 133 = .ok (.iand, 1) := by decide +kernel
theorem dd_M_isBreak_134 : decode bb_M_isBreak 134 = .ok (.ifCond .ne (7), 3) := by decide +kernel
theorem dd_M_isBreak_137 : decode bb_M_isBreak 137 = .ok (.iconst 1, 1) := by decide +kernel
theorem dd_M_isBreak_138 : decode bb_M_isBreak 138 = .ok (.goto (4), 3) := by decide +kernel
theorem dd_M_isBreak_141 : decode bb_M_isBreak 141 = .ok (.iconst 0, 1) := by decide +kernel
theorem dd_M_isBreak_142 : decode bb_M_isBreak 142 = .ok (.ireturn, 1) := by decide +kernel

set_option maxHeartbeats 4000000 in
set_option maxRecDepth 100000 in
theorem ct_M_isBreak (l : Launch) (D : va_G) (cI cJ cZ : ClassId) (sz : Nat) (o : Nat) (th : Nat) (cn : Nat) (a0 : Nat) (a1 : Nat) (a2 : Nat) (a3 : Nat) (a4 : Nat) (a5 : Nat) (mn : Nat) (a6 : Nat) (a7 : Nat) (ps : Nat) (bk : Nat) (a8 : Nat) (a9 : Nat) (a10 : Nat) (a11 : Nat) (a12 : Nat) (a13 : Nat) (a14 : Nat) (a15 : Nat) (kf : Nat) (lb : Int32) (lc : Nat) (lo : Int64) (el : Nat) (ec : Nat) (eo : Int64) (eb : Int32) (ed : Int64) (mp : Nat) (ml : Nat) (md : Int64) (mo : Int64) (mb : Int32) (a16 : Nat) (a17 : Nat) (kd : Nat → Int32) (wd : Nat → Int32) (od : Nat → Int32) (i : Nat) (hi : i ≤ cn) (hc : cn ≤ 4096) (hps : ps ≤ 3) : kx_Mi l yy_M_isBreak ww_M_isBreak ({ frames := 0, cells := 0, slots := 0, locals := 0 }) D vwCl (kx_ty cI cJ cZ) [.ref o, .int (nI i)] [(o, .inr (0, [.int (nI th), .int (nI cn), .ref a0, .ref a1, .ref a2, .ref a3, .ref a4, .ref a5, .int (nI mn), .ref a6, .ref a7, .int (nI ps), .int (nI bk), .ref a8, .ref a9, .ref a10, .ref a11, .ref a12, .ref a13, .ref a14, .ref a15, .int (nI kf), .int lb, .int (nI lc), .long lo, .int (nI el), .int (nI ec), .long eo, .int eb, .long ed, .int (nI mp), .int (nI ml), .long md, .long mo, .int mb, .ref a16, .ref a17])), (a0, .inl (cI, 4097, .inl kd)), (a1, .inl (cI, 4097, .inl wd)), (a3, .inl (cI, 4097, .inl od))] sz (fun (r : Int32) (u : Unit) => r = kb_p (pm_br kd wd od cn ps i)) (fun (u : Unit) => [(o, .inr (0, [.int (nI th), .int (nI cn), .ref a0, .ref a1, .ref a2, .ref a3, .ref a4, .ref a5, .int (nI mn), .ref a6, .ref a7, .int (nI ps), .int (nI bk), .ref a8, .ref a9, .ref a10, .ref a11, .ref a12, .ref a13, .ref a14, .ref a15, .int (nI kf), .int lb, .int (nI lc), .long lo, .int (nI el), .int (nI ec), .long eo, .int eb, .long ed, .int (nI mp), .int (nI ml), .long md, .long mo, .int mb, .ref a16, .ref a17])), (a0, .inl (cI, 4097, .inl kd)), (a1, .inl (cI, 4097, .inl wd)), (a3, .inl (cI, 4097, .inl od))]) 0 0 := by
  refine kx_starti (by decide) rfl (Nat.le_of_ble_eq_true rfl) ?_
  intro p e s m below meth c A ls hx hb hr hml hts hown hlocks hin hP hK hN hD hA hS hl
  have hl : lv_has ls 3 [(0, .ref o), (1, .int (nI i))] := hl
  have hown : s.vm.findClass rr_M = some m.cls := hown
  have lk0 := hts _ (kx_m kw_799)
  have hin0 : ∀ w ∈ u_ws rr_M tt_M 37, w ∈ ww_M_isBreak := fun w h => kx_m (kf_M w h)
  have lk2 := hts _ (kx_m kw_800)
  have lk3 := hts _ (kx_m kw_809)
  have lk4 := hts _ (kx_m kw_803)
  have lk5 := hts _ (kx_m kw_801)
  obtain ⟨H, hH⟩ : ∃ H, H = s.heap := ⟨_, rfl⟩
  obtain ⟨locs, hlocs⟩ : ∃ z : List Loc, z = [] := ⟨_, rfl⟩
  have hP : va_P D vwCl [(o, .inr (0, [.int (nI th), .int (nI cn), .ref a0, .ref a1, .ref a2, .ref a3, .ref a4, .ref a5, .int (nI mn), .ref a6, .ref a7, .int (nI ps), .int (nI bk), .ref a8, .ref a9, .ref a10, .ref a11, .ref a12, .ref a13, .ref a14, .ref a15, .int (nI kf), .int lb, .int (nI lc), .long lo, .int (nI el), .int (nI ec), .long eo, .int eb, .long ed, .int (nI mp), .int (nI ml), .long md, .long mo, .int mb, .ref a16, .ref a17])), (a0, .inl (cI, 4097, .inl kd)), (a1, .inl (cI, 4097, .inl wd)), (a3, .inl (cI, 4097, .inl od))] H := by rw [hH]; exact hP
  have hS : va_S A s.heap H locs := by rw [hH, hlocs]; exact hS
  refine kx_gen hH hlocs ?_
  clear hH hlocs
  refine kx_nameQ (fun Q hQ => ?_)
  refine lv_iload_n hx hb dd_M_isBreak_0 rfl (lv_at hl 1 rfl) ?_
  refine lv_aload_n hx hb dd_M_isBreak_1 rfl (lv_at hl 0 rfl) ?_
  refine va_get (D := D) (ci := 0) (v := .int (nI cn)) (C := rr_M) (T := tt_M) (N := 37) hx hb hts hin0 hown hK hP 0 kg_4_0 rfl 1 (by decide) lk0 (fun _ h9 => h9) rfl dd_M_isBreak_2 ?_
  refine lv_icmp_ne (tgt := 10) hx hb dd_M_isBreak_5 (by decide) (fun c5 => ?_) (fun c5 => ?_)
  · skip
    have c5 : ¬ (i = cn) := fun h => c5 ((nI_eq (by omega) (by omega)).mpr h)
    refine lv_aload_n hx hb dd_M_isBreak_10 rfl (lv_at hl 0 rfl) ?_
    refine va_get (D := D) (ci := 0) (v := .ref a0) (C := rr_M) (T := tt_M) (N := 37) hx hb hts hin0 hown hK hP 0 kg_4_0 rfl 2 (by decide) lk2 (fun _ h9 => h9) rfl dd_M_isBreak_11 ?_
    refine lv_iload_n hx hb dd_M_isBreak_14 rfl (lv_at hl 1 rfl) ?_
    refine kx_iald (q0 := 1) (t0 := 0) hx hb dd_M_isBreak_15 hK hP kg_4_1 rfl (by omega) (by omega) ?_
    refine lv_istore_n (lv' := [(2, .int (kd i)), (0, .ref o), (1, .int (nI i))]) hx hb dd_M_isBreak_16 rfl hl (by decide) rfl (fun ls hl => ?_)
    refine lv_iload_n hx hb dd_M_isBreak_17 rfl (lv_at hl 0 rfl) ?_
    refine lv_iconst (v := nI 1) hx hb dd_M_isBreak_18 (by decide) ?_
    refine lv_icmp_ne (tgt := 55) hx hb dd_M_isBreak_19 (by decide) (fun c19 => ?_) (fun c19 => ?_)
    · skip
      refine lv_iload_n hx hb dd_M_isBreak_55 rfl (lv_at hl 0 rfl) ?_
      refine lv_iconst (v := nI 2) hx hb dd_M_isBreak_56 (by decide) ?_
      refine lv_icmp_ne (tgt := 88) hx hb dd_M_isBreak_57 (by decide) (fun c57 => ?_) (fun c57 => ?_)
      · skip
        refine lv_iload_n hx hb dd_M_isBreak_88 rfl (lv_at hl 0 rfl) ?_
        refine lv_iconst (v := nI 3) hx hb dd_M_isBreak_89 (by decide) ?_
        refine lv_icmp_ne (tgt := 113) hx hb dd_M_isBreak_90 (by decide) (fun c90 => ?_) (fun c90 => ?_)
        · skip
          refine lv_iload_n hx hb dd_M_isBreak_113 rfl (lv_at hl 0 rfl) ?_
          refine lv_iconst (v := nI 4) hx hb dd_M_isBreak_114 (by decide) ?_
          refine lv_icmp_ne (tgt := 141) hx hb dd_M_isBreak_115 (by decide) (fun c115 => ?_) (fun c115 => ?_)
          · skip
            refine lv_iconst (v := nI 0) hx hb dd_M_isBreak_141 (by decide) ?_
            rw [hQ]
            exact kx_zret hx hb hr hlocks hK hN hS dd_M_isBreak_142 (by decide) () hP hD (by clear hP hD hS hK hl hts; first | (refine kb_t ?_; simp_all [pm_br]; done) | (refine kb_f ?_; simp_all [pm_br]; done) | (refine kb_t ?_; simp_all [pm_br] <;> (intros; omega)) | (refine kb_f ?_; simp_all [pm_br] <;> (intros; omega)))
          · skip
            refine lv_aload_n hx hb dd_M_isBreak_118 rfl (lv_at hl 1 rfl) ?_
            refine va_get (D := D) (ci := 0) (v := .int (nI ps)) (C := rr_M) (T := tt_M) (N := 37) hx hb hts hin0 hown hK hP 0 kg_4_0 rfl 11 (by decide) lk3 (fun _ h9 => h9) rfl dd_M_isBreak_119 ?_
            refine lv_iconst (v := nI 1) hx hb dd_M_isBreak_122 (by decide) ?_
            refine lv_icmp_gt (tgt := 137) hx hb dd_M_isBreak_123 (by decide) (fun c123 => ?_) (fun c123 => ?_)
            · skip
              have c123 : 1 < ps := (nI_ltI (by omega) (by omega)).mp c123
              refine lv_iconst (v := nI 1) hx hb dd_M_isBreak_137 (by decide) ?_
              refine lv_goto (tgt := 142) hx hb dd_M_isBreak_138 (by decide) ?_
              rw [hQ]
              exact kx_zret hx hb hr hlocks hK hN hS dd_M_isBreak_142 (by decide) () hP hD (by clear hP hD hS hK hl hts; first | (refine kb_t ?_; simp_all [pm_br]; done) | (refine kb_f ?_; simp_all [pm_br]; done) | (refine kb_t ?_; simp_all [pm_br] <;> (intros; omega)) | (refine kb_f ?_; simp_all [pm_br] <;> (intros; omega)))
            · skip
              have c123 : ¬ (1 < ps) := fun h => c123 ((nI_ltI (by omega) (by omega)).mpr h)
              refine lv_aload_n hx hb dd_M_isBreak_126 rfl (lv_at hl 1 rfl) ?_
              refine va_get (D := D) (ci := 0) (v := .ref a3) (C := rr_M) (T := tt_M) (N := 37) hx hb hts hin0 hown hK hP 0 kg_4_0 rfl 5 (by decide) lk4 (fun _ h9 => h9) rfl dd_M_isBreak_127 ?_
              refine lv_iload_n hx hb dd_M_isBreak_130 rfl (lv_at hl 2 rfl) ?_
              refine kx_iald (q0 := 3) (t0 := 0) hx hb dd_M_isBreak_131 hK hP kg_4_3 rfl (by omega) (by omega) ?_
              refine lv_iconst (v := nI 4) hx hb dd_M_isBreak_132 (by decide) ?_
              refine lv_iand hx hb dd_M_isBreak_133 ?_
              refine lv_if_ne (tgt := 141) hx hb dd_M_isBreak_134 (by decide) (fun c134 => ?_) (fun c134 => ?_)
              · skip
                refine lv_iconst (v := nI 0) hx hb dd_M_isBreak_141 (by decide) ?_
                rw [hQ]
                exact kx_zret hx hb hr hlocks hK hN hS dd_M_isBreak_142 (by decide) () hP hD (by clear hP hD hS hK hl hts; first | (refine kb_t ?_; simp_all [pm_br]; done) | (refine kb_f ?_; simp_all [pm_br]; done) | (refine kb_t ?_; simp_all [pm_br] <;> (intros; omega)) | (refine kb_f ?_; simp_all [pm_br] <;> (intros; omega)))
              · skip
                refine lv_iconst (v := nI 1) hx hb dd_M_isBreak_137 (by decide) ?_
                refine lv_goto (tgt := 142) hx hb dd_M_isBreak_138 (by decide) ?_
                rw [hQ]
                exact kx_zret hx hb hr hlocks hK hN hS dd_M_isBreak_142 (by decide) () hP hD (by clear hP hD hS hK hl hts; first | (refine kb_t ?_; simp_all [pm_br]; done) | (refine kb_f ?_; simp_all [pm_br]; done) | (refine kb_t ?_; simp_all [pm_br] <;> (intros; omega)) | (refine kb_f ?_; simp_all [pm_br] <;> (intros; omega)))
        · skip
          refine lv_aload_n hx hb dd_M_isBreak_93 rfl (lv_at hl 1 rfl) ?_
          refine va_get (D := D) (ci := 0) (v := .ref a1) (C := rr_M) (T := tt_M) (N := 37) hx hb hts hin0 hown hK hP 0 kg_4_0 rfl 3 (by decide) lk5 (fun _ h9 => h9) rfl dd_M_isBreak_94 ?_
          refine lv_iload_n hx hb dd_M_isBreak_97 rfl (lv_at hl 2 rfl) ?_
          refine kx_iald (q0 := 2) (t0 := 0) hx hb dd_M_isBreak_98 hK hP kg_4_2 rfl (by omega) (by omega) ?_
          refine lv_sipush (v := nI 10000) hx hb dd_M_isBreak_99 (by decide) ?_
          refine lv_icmp_ge (tgt := 109) hx hb dd_M_isBreak_102 (by decide) (fun c102 => ?_) (fun c102 => ?_)
          · skip
            refine lv_iconst (v := nI 0) hx hb dd_M_isBreak_109 (by decide) ?_
            refine lv_goto (tgt := 142) hx hb dd_M_isBreak_110 (by decide) ?_
            rw [hQ]
            exact kx_zret hx hb hr hlocks hK hN hS dd_M_isBreak_142 (by decide) () hP hD (by clear hP hD hS hK hl hts; first | (refine kb_t ?_; simp_all [pm_br]; done) | (refine kb_f ?_; simp_all [pm_br]; done) | (refine kb_t ?_; simp_all [pm_br] <;> (intros; omega)) | (refine kb_f ?_; simp_all [pm_br] <;> (intros; omega)))
          · skip
            refine lv_iconst (v := nI 1) hx hb dd_M_isBreak_105 (by decide) ?_
            refine lv_goto (tgt := 142) hx hb dd_M_isBreak_106 (by decide) ?_
            rw [hQ]
            exact kx_zret hx hb hr hlocks hK hN hS dd_M_isBreak_142 (by decide) () hP hD (by clear hP hD hS hK hl hts; first | (refine kb_t ?_; simp_all [pm_br]; done) | (refine kb_f ?_; simp_all [pm_br]; done) | (refine kb_t ?_; simp_all [pm_br] <;> (intros; omega)) | (refine kb_f ?_; simp_all [pm_br] <;> (intros; omega)))
      · skip
        refine lv_iload_n hx hb dd_M_isBreak_60 rfl (lv_at hl 2 rfl) ?_
        refine lv_iconst (v := nI 1) hx hb dd_M_isBreak_61 (by decide) ?_
        refine kx_iadd hx hb dd_M_isBreak_62 ?_
        refine lv_aload_n hx hb dd_M_isBreak_63 rfl (lv_at hl 1 rfl) ?_
        refine va_get (D := D) (ci := 0) (v := .int (nI cn)) (C := rr_M) (T := tt_M) (N := 37) hx hb hts hin0 hown hK hP 0 kg_4_0 rfl 1 (by decide) lk0 (fun _ h9 => h9) rfl dd_M_isBreak_64 ?_
        refine lv_icmp_ge (tgt := 86) hx hb dd_M_isBreak_67 (by decide) (fun c67 => ?_) (fun c67 => ?_)
        · skip
          have c67 : cn ≤ (i + 1) := (nI_leI (by omega) (by omega)).mp c67
          refine lv_iconst (v := nI 0) hx hb dd_M_isBreak_86 (by decide) ?_
          rw [hQ]
          exact kx_zret hx hb hr hlocks hK hN hS dd_M_isBreak_87 (by decide) () hP hD (by clear hP hD hS hK hl hts; first | (refine kb_t ?_; simp_all [pm_br]; done) | (refine kb_f ?_; simp_all [pm_br]; done) | (refine kb_t ?_; simp_all [pm_br] <;> (intros; omega)) | (refine kb_f ?_; simp_all [pm_br] <;> (intros; omega)))
        · skip
          have c67 : ¬ (cn ≤ (i + 1)) := fun h => c67 ((nI_leI (by omega) (by omega)).mpr h)
          refine lv_aload_n hx hb dd_M_isBreak_70 rfl (lv_at hl 1 rfl) ?_
          refine va_get (D := D) (ci := 0) (v := .ref a0) (C := rr_M) (T := tt_M) (N := 37) hx hb hts hin0 hown hK hP 0 kg_4_0 rfl 2 (by decide) lk2 (fun _ h9 => h9) rfl dd_M_isBreak_71 ?_
          refine lv_iload_n hx hb dd_M_isBreak_74 rfl (lv_at hl 2 rfl) ?_
          refine lv_iconst (v := nI 1) hx hb dd_M_isBreak_75 (by decide) ?_
          refine kx_iadd hx hb dd_M_isBreak_76 ?_
          refine kx_iald (q0 := 1) (t0 := 0) hx hb dd_M_isBreak_77 hK hP kg_4_1 rfl (by omega) (by omega) ?_
          refine lv_iconst (v := nI 1) hx hb dd_M_isBreak_78 (by decide) ?_
          refine lv_icmp_ne (tgt := 86) hx hb dd_M_isBreak_79 (by decide) (fun c79 => ?_) (fun c79 => ?_)
          · skip
            refine lv_iconst (v := nI 0) hx hb dd_M_isBreak_86 (by decide) ?_
            rw [hQ]
            exact kx_zret hx hb hr hlocks hK hN hS dd_M_isBreak_87 (by decide) () hP hD (by clear hP hD hS hK hl hts; first | (refine kb_t ?_; simp_all [pm_br]; done) | (refine kb_f ?_; simp_all [pm_br]; done) | (refine kb_t ?_; simp_all [pm_br] <;> (intros; omega)) | (refine kb_f ?_; simp_all [pm_br] <;> (intros; omega)))
          · skip
            refine lv_iconst (v := nI 1) hx hb dd_M_isBreak_82 (by decide) ?_
            refine lv_goto (tgt := 87) hx hb dd_M_isBreak_83 (by decide) ?_
            rw [hQ]
            exact kx_zret hx hb hr hlocks hK hN hS dd_M_isBreak_87 (by decide) () hP hD (by clear hP hD hS hK hl hts; first | (refine kb_t ?_; simp_all [pm_br]; done) | (refine kb_f ?_; simp_all [pm_br]; done) | (refine kb_t ?_; simp_all [pm_br] <;> (intros; omega)) | (refine kb_f ?_; simp_all [pm_br] <;> (intros; omega)))
    · skip
      refine lv_iload_n hx hb dd_M_isBreak_22 rfl (lv_at hl 2 rfl) ?_
      refine lv_if_le (tgt := 53) hx hb dd_M_isBreak_23 (by decide) (fun c23 => ?_) (fun c23 => ?_)
      · skip
        have c23 : i ≤ 0 := (kn_le0 (by omega)).mp c23
        refine lv_iconst (v := nI 0) hx hb dd_M_isBreak_53 (by decide) ?_
        rw [hQ]
        exact kx_zret hx hb hr hlocks hK hN hS dd_M_isBreak_54 (by decide) () hP hD (by clear hP hD hS hK hl hts; first | (refine kb_t ?_; simp_all [pm_br]; done) | (refine kb_f ?_; simp_all [pm_br]; done) | (refine kb_t ?_; simp_all [pm_br] <;> (intros; omega)) | (refine kb_f ?_; simp_all [pm_br] <;> (intros; omega)))
      · skip
        have c23 : ¬ (i ≤ 0) := fun h => c23 ((kn_le0 (by omega)).mpr h)
        refine lv_aload_n hx hb dd_M_isBreak_26 rfl (lv_at hl 1 rfl) ?_
        refine va_get (D := D) (ci := 0) (v := .ref a0) (C := rr_M) (T := tt_M) (N := 37) hx hb hts hin0 hown hK hP 0 kg_4_0 rfl 2 (by decide) lk2 (fun _ h9 => h9) rfl dd_M_isBreak_27 ?_
        refine lv_iload_n hx hb dd_M_isBreak_30 rfl (lv_at hl 2 rfl) ?_
        refine lv_iconst (v := nI 1) hx hb dd_M_isBreak_31 (by decide) ?_
        refine kx_isub hx hb dd_M_isBreak_32 (by omega) ?_
        refine kx_iald (q0 := 1) (t0 := 0) hx hb dd_M_isBreak_33 hK hP kg_4_1 rfl (by omega) (by omega) ?_
        refine lv_if_eq (tgt := 49) hx hb dd_M_isBreak_34 (by decide) (fun c34 => ?_) (fun c34 => ?_)
        · skip
          refine lv_iconst (v := nI 1) hx hb dd_M_isBreak_49 (by decide) ?_
          refine lv_goto (tgt := 54) hx hb dd_M_isBreak_50 (by decide) ?_
          rw [hQ]
          exact kx_zret hx hb hr hlocks hK hN hS dd_M_isBreak_54 (by decide) () hP hD (by clear hP hD hS hK hl hts; first | (refine kb_t ?_; simp_all [pm_br]; done) | (refine kb_f ?_; simp_all [pm_br]; done) | (refine kb_t ?_; simp_all [pm_br] <;> (intros; omega)) | (refine kb_f ?_; simp_all [pm_br] <;> (intros; omega)))
        · skip
          refine lv_aload_n hx hb dd_M_isBreak_37 rfl (lv_at hl 1 rfl) ?_
          refine va_get (D := D) (ci := 0) (v := .ref a0) (C := rr_M) (T := tt_M) (N := 37) hx hb hts hin0 hown hK hP 0 kg_4_0 rfl 2 (by decide) lk2 (fun _ h9 => h9) rfl dd_M_isBreak_38 ?_
          refine lv_iload_n hx hb dd_M_isBreak_41 rfl (lv_at hl 2 rfl) ?_
          refine lv_iconst (v := nI 1) hx hb dd_M_isBreak_42 (by decide) ?_
          refine kx_isub hx hb dd_M_isBreak_43 (by omega) ?_
          refine kx_iald (q0 := 1) (t0 := 0) hx hb dd_M_isBreak_44 hK hP kg_4_1 rfl (by omega) (by omega) ?_
          refine lv_iconst (v := nI 4) hx hb dd_M_isBreak_45 (by decide) ?_
          refine lv_icmp_ne (tgt := 53) hx hb dd_M_isBreak_46 (by decide) (fun c46 => ?_) (fun c46 => ?_)
          · skip
            refine lv_iconst (v := nI 0) hx hb dd_M_isBreak_53 (by decide) ?_
            rw [hQ]
            exact kx_zret hx hb hr hlocks hK hN hS dd_M_isBreak_54 (by decide) () hP hD (by clear hP hD hS hK hl hts; first | (refine kb_t ?_; simp_all [pm_br]; done) | (refine kb_f ?_; simp_all [pm_br]; done) | (refine kb_t ?_; simp_all [pm_br] <;> (intros; omega)) | (refine kb_f ?_; simp_all [pm_br] <;> (intros; omega)))
          · skip
            refine lv_iconst (v := nI 1) hx hb dd_M_isBreak_49 (by decide) ?_
            refine lv_goto (tgt := 54) hx hb dd_M_isBreak_50 (by decide) ?_
            rw [hQ]
            exact kx_zret hx hb hr hlocks hK hN hS dd_M_isBreak_54 (by decide) () hP hD (by clear hP hD hS hK hl hts; first | (refine kb_t ?_; simp_all [pm_br]; done) | (refine kb_f ?_; simp_all [pm_br]; done) | (refine kb_t ?_; simp_all [pm_br] <;> (intros; omega)) | (refine kb_f ?_; simp_all [pm_br] <;> (intros; omega)))
  · skip
    have c5 : i = cn := (nI_eq (by omega) (by omega)).mp c5
    refine lv_iconst (v := nI 1) hx hb dd_M_isBreak_8 (by decide) ?_
    rw [hQ]
    exact kx_zret hx hb hr hlocks hK hN hS dd_M_isBreak_9 (by decide) () hP hD (by clear hP hD hS hK hl hts; first | (refine kb_t ?_; simp_all [pm_br]; done) | (refine kb_f ?_; simp_all [pm_br]; done) | (refine kb_t ?_; simp_all [pm_br] <;> (intros; omega)) | (refine kb_f ?_; simp_all [pm_br] <;> (intros; omega)))

theorem dd_M_penaltyOf_0 : decode bb_M_penaltyOf 0 = .ok (.iload_n 1, 1) := by decide +kernel
theorem dd_M_penaltyOf_1 : decode bb_M_penaltyOf 1 = .ok (.aload_n 0, 1) := by decide +kernel
theorem dd_M_penaltyOf_2 : decode bb_M_penaltyOf 2 = .ok (.getfield 85, 3) := by decide +kernel
theorem dd_M_penaltyOf_5 : decode bb_M_penaltyOf 5 = .ok (.if_icmp .ne (7), 3) := by decide +kernel
theorem dd_M_penaltyOf_8 : decode bb_M_penaltyOf 8 = .ok (.sipush (-10000), 3) := by decide +kernel
theorem dd_M_penaltyOf_11 : decode bb_M_penaltyOf 11 = .ok (.ireturn, 1) := by decide +kernel
theorem dd_M_penaltyOf_12 : decode bb_M_penaltyOf 12 = .ok (.aload_n 0, 1) := by decide +kernel
theorem dd_M_penaltyOf_13 : decode bb_M_penaltyOf 13 = .ok (.getfield 7, 3) := by decide +kernel
theorem dd_M_penaltyOf_16 : decode bb_M_penaltyOf 16 = .ok (.iload_n 1, 1) := by decide +kernel
theorem dd_M_penaltyOf_17 : decode bb_M_penaltyOf 17 = .ok (.iaload, 1) := by decide +kernel
theorem dd_M_penaltyOf_18 : decode bb_M_penaltyOf 18 = .ok (.iconst 3, 1) := by decide +kernel
theorem dd_M_penaltyOf_19 : decode bb_M_penaltyOf 19 = .ok (.if_icmp .ne (12), 3) := by decide +kernel
theorem dd_M_penaltyOf_22 : decode bb_M_penaltyOf 22 = .ok (.aload_n 0, 1) := by decide +kernel
theorem dd_M_penaltyOf_23 : decode bb_M_penaltyOf 23 = .ok (.getfield 13, 3) := by decide +kernel
theorem dd_M_penaltyOf_26 : decode bb_M_penaltyOf 26 = .ok (.iload_n 1, 1) := by decide +kernel
theorem dd_M_penaltyOf_27 : decode bb_M_penaltyOf 27 = .ok (.iaload, 1) := by decide +kernel
theorem dd_M_penaltyOf_28 : decode bb_M_penaltyOf 28 = .ok (.goto (44), 3) := by decide +kernel
theorem dd_M_penaltyOf_31 : decode bb_M_penaltyOf 31 = .ok (.aload_n 0, 1) := by decide +kernel
theorem dd_M_penaltyOf_32 : decode bb_M_penaltyOf 32 = .ok (.getfield 7, 3) := by decide +kernel
theorem dd_M_penaltyOf_35 : decode bb_M_penaltyOf 35 = .ok (.iload_n 1, 1) := by decide +kernel
theorem dd_M_penaltyOf_36 : decode bb_M_penaltyOf 36 = .ok (.iaload, 1) := by decide +kernel
theorem dd_M_penaltyOf_37 : decode bb_M_penaltyOf 37 = .ok (.iconst 4, 1) := by decide +kernel
theorem dd_M_penaltyOf_38 : decode bb_M_penaltyOf 38 = .ok (.if_icmp .eq (7), 3) := by decide +kernel
theorem dd_M_penaltyOf_41 : decode bb_M_penaltyOf 41 = .ok (.iconst 0, 1) := by decide +kernel
theorem dd_M_penaltyOf_42 : decode bb_M_penaltyOf 42 = .ok (.goto (30), 3) := by decide +kernel
theorem dd_M_penaltyOf_45 : decode bb_M_penaltyOf 45 = .ok (.aload_n 0, 1) := by decide +kernel
theorem dd_M_penaltyOf_46 : decode bb_M_penaltyOf 46 = .ok (.getfield 19, 3) := by decide +kernel
theorem dd_M_penaltyOf_49 : decode bb_M_penaltyOf 49 = .ok (.iload_n 1, 1) := by decide +kernel
theorem dd_M_penaltyOf_50 : decode bb_M_penaltyOf 50 = .ok (.iaload, 1) := by decide +kernel
theorem dd_M_penaltyOf_51 : decode bb_M_penaltyOf 51 = .ok (.iconst 1, 1) := by decide +kernel
theorem dd_M_penaltyOf_52 : decode bb_M_penaltyOf 52 = .ok (.iand, 1) := by decide +kernel
theorem dd_M_penaltyOf_53 : decode bb_M_penaltyOf 53 = .ok (.iconst 1, 1) := by decide +kernel
theorem dd_M_penaltyOf_54 : decode bb_M_penaltyOf 54 = .ok (.if_icmp .ne (12), 3) := by decide +kernel
theorem dd_M_penaltyOf_57 : decode bb_M_penaltyOf 57 = .ok (.aload_n 0, 1) := by decide +kernel
theorem dd_M_penaltyOf_58 : decode bb_M_penaltyOf 58 = .ok (.getfield 25, 3) := by decide +kernel
theorem dd_M_penaltyOf_61 : decode bb_M_penaltyOf 61 = .ok (.iconst 3, 1) := by decide +kernel
theorem dd_M_penaltyOf_62 : decode bb_M_penaltyOf 62 = .ok (.iaload, 1) := by decide +kernel
theorem dd_M_penaltyOf_63 : decode bb_M_penaltyOf 63 = .ok (.goto (9), 3) := by decide +kernel
theorem dd_M_penaltyOf_66 : decode bb_M_penaltyOf 66 = .ok (.aload_n 0, 1) := by decide +kernel
theorem dd_M_penaltyOf_67 : decode bb_M_penaltyOf 67 = .ok (.getfield 25, 3) := by decide +kernel
theorem dd_M_penaltyOf_70 : decode bb_M_penaltyOf 70 = .ok (.iconst 4, 1) := by decide +kernel
theorem dd_M_penaltyOf_71 : decode bb_M_penaltyOf 71 = .ok (.iaload, 1) := by decide +kernel
theorem dd_M_penaltyOf_72 : decode bb_M_penaltyOf 72 = .ok (.ireturn, 1) := by decide +kernel

set_option maxHeartbeats 4000000 in
set_option maxRecDepth 100000 in
theorem ct_M_penaltyOf (l : Launch) (D : va_G) (cI cJ cZ : ClassId) (sz : Nat) (o : Nat) (th : Nat) (cn : Nat) (a0 : Nat) (a1 : Nat) (a2 : Nat) (a3 : Nat) (a4 : Nat) (a5 : Nat) (mn : Nat) (a6 : Nat) (a7 : Nat) (ps : Nat) (bk : Nat) (a8 : Nat) (a9 : Nat) (a10 : Nat) (a11 : Nat) (a12 : Nat) (a13 : Nat) (a14 : Nat) (a15 : Nat) (kf : Nat) (lb : Int32) (lc : Nat) (lo : Int64) (el : Nat) (ec : Nat) (eo : Int64) (eb : Int32) (ed : Int64) (mp : Nat) (ml : Nat) (md : Int64) (mo : Int64) (mb : Int32) (a16 : Nat) (a17 : Nat) (kd : Nat → Int32) (wd : Nat → Int32) (od : Nat → Int32) (ru : Nat → Int32) (i : Nat) (hi : i ≤ cn) (hc : cn ≤ 4096) : kx_Mi l yy_M_penaltyOf ww_M_penaltyOf ({ frames := 0, cells := 0, slots := 0, locals := 0 }) D vwCl (kx_ty cI cJ cZ) [.ref o, .int (nI i)] [(o, .inr (0, [.int (nI th), .int (nI cn), .ref a0, .ref a1, .ref a2, .ref a3, .ref a4, .ref a5, .int (nI mn), .ref a6, .ref a7, .int (nI ps), .int (nI bk), .ref a8, .ref a9, .ref a10, .ref a11, .ref a12, .ref a13, .ref a14, .ref a15, .int (nI kf), .int lb, .int (nI lc), .long lo, .int (nI el), .int (nI ec), .long eo, .int eb, .long ed, .int (nI mp), .int (nI ml), .long md, .long mo, .int mb, .ref a16, .ref a17])), (a0, .inl (cI, 4097, .inl kd)), (a1, .inl (cI, 4097, .inl wd)), (a3, .inl (cI, 4097, .inl od)), (a5, .inl (cI, 9, .inl ru))] sz (fun (r : Int32) (u : Unit) => r = pm_pen kd wd od ru cn i) (fun (u : Unit) => [(o, .inr (0, [.int (nI th), .int (nI cn), .ref a0, .ref a1, .ref a2, .ref a3, .ref a4, .ref a5, .int (nI mn), .ref a6, .ref a7, .int (nI ps), .int (nI bk), .ref a8, .ref a9, .ref a10, .ref a11, .ref a12, .ref a13, .ref a14, .ref a15, .int (nI kf), .int lb, .int (nI lc), .long lo, .int (nI el), .int (nI ec), .long eo, .int eb, .long ed, .int (nI mp), .int (nI ml), .long md, .long mo, .int mb, .ref a16, .ref a17])), (a0, .inl (cI, 4097, .inl kd)), (a1, .inl (cI, 4097, .inl wd)), (a3, .inl (cI, 4097, .inl od)), (a5, .inl (cI, 9, .inl ru))]) 0 0 := by
  refine kx_starti (by decide) rfl (Nat.le_of_ble_eq_true rfl) ?_
  intro p e s m below meth c A ls hx hb hr hml hts hown hlocks hin hP hK hN hD hA hS hl
  have hl : lv_has ls 2 [(0, .ref o), (1, .int (nI i))] := hl
  have hown : s.vm.findClass rr_M = some m.cls := hown
  have lk0 := hts _ (kx_m kw_799)
  have hin0 : ∀ w ∈ u_ws rr_M tt_M 37, w ∈ ww_M_penaltyOf := fun w h => kx_m (kf_M w h)
  have lk2 := hts _ (kx_m kw_800)
  have lk3 := hts _ (kx_m kw_803)
  have lk4 := hts _ (kx_m kw_805)
  have lk5 := hts _ (kx_m kw_801)
  obtain ⟨H, hH⟩ : ∃ H, H = s.heap := ⟨_, rfl⟩
  obtain ⟨locs, hlocs⟩ : ∃ z : List Loc, z = [] := ⟨_, rfl⟩
  have hP : va_P D vwCl [(o, .inr (0, [.int (nI th), .int (nI cn), .ref a0, .ref a1, .ref a2, .ref a3, .ref a4, .ref a5, .int (nI mn), .ref a6, .ref a7, .int (nI ps), .int (nI bk), .ref a8, .ref a9, .ref a10, .ref a11, .ref a12, .ref a13, .ref a14, .ref a15, .int (nI kf), .int lb, .int (nI lc), .long lo, .int (nI el), .int (nI ec), .long eo, .int eb, .long ed, .int (nI mp), .int (nI ml), .long md, .long mo, .int mb, .ref a16, .ref a17])), (a0, .inl (cI, 4097, .inl kd)), (a1, .inl (cI, 4097, .inl wd)), (a3, .inl (cI, 4097, .inl od)), (a5, .inl (cI, 9, .inl ru))] H := by rw [hH]; exact hP
  have hS : va_S A s.heap H locs := by rw [hH, hlocs]; exact hS
  refine kx_gen hH hlocs ?_
  clear hH hlocs
  refine kx_nameQ (fun Q hQ => ?_)
  refine lv_iload_n hx hb dd_M_penaltyOf_0 rfl (lv_at hl 1 rfl) ?_
  refine lv_aload_n hx hb dd_M_penaltyOf_1 rfl (lv_at hl 0 rfl) ?_
  refine va_get (D := D) (ci := 0) (v := .int (nI cn)) (C := rr_M) (T := tt_M) (N := 37) hx hb hts hin0 hown hK hP 0 kg_5_0 rfl 1 (by decide) lk0 (fun _ h9 => h9) rfl dd_M_penaltyOf_2 ?_
  refine lv_icmp_ne (tgt := 12) hx hb dd_M_penaltyOf_5 (by decide) (fun c5 => ?_) (fun c5 => ?_)
  · skip
    have c5 : ¬ (i = cn) := fun h => c5 ((nI_eq (by omega) (by omega)).mpr h)
    refine lv_aload_n hx hb dd_M_penaltyOf_12 rfl (lv_at hl 0 rfl) ?_
    refine va_get (D := D) (ci := 0) (v := .ref a0) (C := rr_M) (T := tt_M) (N := 37) hx hb hts hin0 hown hK hP 0 kg_5_0 rfl 2 (by decide) lk2 (fun _ h9 => h9) rfl dd_M_penaltyOf_13 ?_
    refine lv_iload_n hx hb dd_M_penaltyOf_16 rfl (lv_at hl 1 rfl) ?_
    refine kx_iald (q0 := 1) (t0 := 0) hx hb dd_M_penaltyOf_17 hK hP kg_5_1 rfl (by omega) (by omega) ?_
    refine lv_iconst (v := nI 3) hx hb dd_M_penaltyOf_18 (by decide) ?_
    refine lv_icmp_ne (tgt := 31) hx hb dd_M_penaltyOf_19 (by decide) (fun c19 => ?_) (fun c19 => ?_)
    · skip
      refine lv_aload_n hx hb dd_M_penaltyOf_31 rfl (lv_at hl 0 rfl) ?_
      refine va_get (D := D) (ci := 0) (v := .ref a0) (C := rr_M) (T := tt_M) (N := 37) hx hb hts hin0 hown hK hP 0 kg_5_0 rfl 2 (by decide) lk2 (fun _ h9 => h9) rfl dd_M_penaltyOf_32 ?_
      refine lv_iload_n hx hb dd_M_penaltyOf_35 rfl (lv_at hl 1 rfl) ?_
      refine kx_iald (q0 := 1) (t0 := 0) hx hb dd_M_penaltyOf_36 hK hP kg_5_1 rfl (by omega) (by omega) ?_
      refine lv_iconst (v := nI 4) hx hb dd_M_penaltyOf_37 (by decide) ?_
      refine lv_icmp_eq (tgt := 45) hx hb dd_M_penaltyOf_38 (by decide) (fun c38 => ?_) (fun c38 => ?_)
      · skip
        refine lv_aload_n hx hb dd_M_penaltyOf_45 rfl (lv_at hl 0 rfl) ?_
        refine va_get (D := D) (ci := 0) (v := .ref a3) (C := rr_M) (T := tt_M) (N := 37) hx hb hts hin0 hown hK hP 0 kg_5_0 rfl 5 (by decide) lk3 (fun _ h9 => h9) rfl dd_M_penaltyOf_46 ?_
        refine lv_iload_n hx hb dd_M_penaltyOf_49 rfl (lv_at hl 1 rfl) ?_
        refine kx_iald (q0 := 3) (t0 := 0) hx hb dd_M_penaltyOf_50 hK hP kg_5_3 rfl (by omega) (by omega) ?_
        refine lv_iconst (v := nI 1) hx hb dd_M_penaltyOf_51 (by decide) ?_
        refine lv_iand hx hb dd_M_penaltyOf_52 ?_
        refine lv_iconst (v := nI 1) hx hb dd_M_penaltyOf_53 (by decide) ?_
        refine lv_icmp_ne (tgt := 66) hx hb dd_M_penaltyOf_54 (by decide) (fun c54 => ?_) (fun c54 => ?_)
        · skip
          refine lv_aload_n hx hb dd_M_penaltyOf_66 rfl (lv_at hl 0 rfl) ?_
          refine va_get (D := D) (ci := 0) (v := .ref a5) (C := rr_M) (T := tt_M) (N := 37) hx hb hts hin0 hown hK hP 0 kg_5_0 rfl 7 (by decide) lk4 (fun _ h9 => h9) rfl dd_M_penaltyOf_67 ?_
          refine lv_iconst (v := nI 4) hx hb dd_M_penaltyOf_70 (by decide) ?_
          refine kx_iald (q0 := 4) (t0 := 0) hx hb dd_M_penaltyOf_71 hK hP kg_5_4 rfl (by omega) (by omega) ?_
          rw [hQ]
          exact kx_iret hx hb hr hlocks hK hN hS dd_M_penaltyOf_72 () hP hD (by clear hP hD hS hK hl hts; simp_all [pm_pen])
        · skip
          refine lv_aload_n hx hb dd_M_penaltyOf_57 rfl (lv_at hl 0 rfl) ?_
          refine va_get (D := D) (ci := 0) (v := .ref a5) (C := rr_M) (T := tt_M) (N := 37) hx hb hts hin0 hown hK hP 0 kg_5_0 rfl 7 (by decide) lk4 (fun _ h9 => h9) rfl dd_M_penaltyOf_58 ?_
          refine lv_iconst (v := nI 3) hx hb dd_M_penaltyOf_61 (by decide) ?_
          refine kx_iald (q0 := 4) (t0 := 0) hx hb dd_M_penaltyOf_62 hK hP kg_5_4 rfl (by omega) (by omega) ?_
          refine lv_goto (tgt := 72) hx hb dd_M_penaltyOf_63 (by decide) ?_
          rw [hQ]
          exact kx_iret hx hb hr hlocks hK hN hS dd_M_penaltyOf_72 () hP hD (by clear hP hD hS hK hl hts; simp_all [pm_pen])
      · skip
        refine lv_iconst (v := nI 0) hx hb dd_M_penaltyOf_41 (by decide) ?_
        refine lv_goto (tgt := 72) hx hb dd_M_penaltyOf_42 (by decide) ?_
        rw [hQ]
        exact kx_iret hx hb hr hlocks hK hN hS dd_M_penaltyOf_72 () hP hD (by clear hP hD hS hK hl hts; simp_all [pm_pen])
    · skip
      refine lv_aload_n hx hb dd_M_penaltyOf_22 rfl (lv_at hl 0 rfl) ?_
      refine va_get (D := D) (ci := 0) (v := .ref a1) (C := rr_M) (T := tt_M) (N := 37) hx hb hts hin0 hown hK hP 0 kg_5_0 rfl 3 (by decide) lk5 (fun _ h9 => h9) rfl dd_M_penaltyOf_23 ?_
      refine lv_iload_n hx hb dd_M_penaltyOf_26 rfl (lv_at hl 1 rfl) ?_
      refine kx_iald (q0 := 2) (t0 := 0) hx hb dd_M_penaltyOf_27 hK hP kg_5_2 rfl (by omega) (by omega) ?_
      refine lv_goto (tgt := 72) hx hb dd_M_penaltyOf_28 (by decide) ?_
      rw [hQ]
      exact kx_iret hx hb hr hlocks hK hN hS dd_M_penaltyOf_72 () hP hD (by clear hP hD hS hK hl hts; simp_all [pm_pen])
  · skip
    have c5 : i = cn := (nI_eq (by omega) (by omega)).mp c5
    refine lv_sipush (v := (-10000)) hx hb dd_M_penaltyOf_8 (by decide) ?_
    rw [hQ]
    exact kx_iret hx hb hr hlocks hK hN hS dd_M_penaltyOf_11 () hP hD (by clear hP hD hS hK hl hts; simp_all [pm_pen])

theorem dd_M_isHyphenated_0 : decode bb_M_isHyphenated 0 = .ok (.iload_n 1, 1) := by decide +kernel
theorem dd_M_isHyphenated_1 : decode bb_M_isHyphenated 1 = .ok (.ifCond .lt (25), 3) := by decide +kernel
theorem dd_M_isHyphenated_4 : decode bb_M_isHyphenated 4 = .ok (.iload_n 1, 1) := by decide +kernel
theorem dd_M_isHyphenated_5 : decode bb_M_isHyphenated 5 = .ok (.aload_n 0, 1) := by decide +kernel
theorem dd_M_isHyphenated_6 : decode bb_M_isHyphenated 6 = .ok (.getfield 85, 3) := by decide +kernel
theorem dd_M_isHyphenated_9 : decode bb_M_isHyphenated 9 = .ok (.if_icmp .ge (17), 3) := by decide +kernel
theorem dd_M_isHyphenated_12 : decode bb_M_isHyphenated 12 = .ok (.aload_n 0, 1) := by decide +kernel
theorem dd_M_isHyphenated_13 : decode bb_M_isHyphenated 13 = .ok (.getfield 7, 3) := by decide +kernel
theorem dd_M_isHyphenated_16 : decode bb_M_isHyphenated 16 = .ok (.iload_n 1, 1) := by decide +kernel
theorem dd_M_isHyphenated_17 : decode bb_M_isHyphenated 17 = .ok (.iaload, 1) := by decide +kernel
theorem dd_M_isHyphenated_18 : decode bb_M_isHyphenated 18 = .ok (.iconst 4, 1) := by decide +kernel
theorem dd_M_isHyphenated_19 : decode bb_M_isHyphenated 19 = .ok (.if_icmp .ne (7), 3) := by decide +kernel
theorem dd_M_isHyphenated_22 : decode bb_M_isHyphenated 22 = .ok (.iconst 1, 1) := by decide +kernel
theorem dd_M_isHyphenated_23 : decode bb_M_isHyphenated 23 = .ok (.goto (4), 3) := by decide +kernel
theorem dd_M_isHyphenated_26 : decode bb_M_isHyphenated 26 = .ok (.iconst 0, 1) := by decide +kernel
theorem dd_M_isHyphenated_27 : decode bb_M_isHyphenated 27 = .ok (.ireturn, 1) := by decide +kernel

set_option maxHeartbeats 4000000 in
set_option maxRecDepth 100000 in
theorem ct_M_isHyphenated (l : Launch) (D : va_G) (cI cJ cZ : ClassId) (sz : Nat) (o : Nat) (th : Nat) (cn : Nat) (a0 : Nat) (a1 : Nat) (a2 : Nat) (a3 : Nat) (a4 : Nat) (a5 : Nat) (mn : Nat) (a6 : Nat) (a7 : Nat) (ps : Nat) (bk : Nat) (a8 : Nat) (a9 : Nat) (a10 : Nat) (a11 : Nat) (a12 : Nat) (a13 : Nat) (a14 : Nat) (a15 : Nat) (kf : Nat) (lb : Int32) (lc : Nat) (lo : Int64) (el : Nat) (ec : Nat) (eo : Int64) (eb : Int32) (ed : Int64) (mp : Nat) (ml : Nat) (md : Int64) (mo : Int64) (mb : Int32) (a16 : Nat) (a17 : Nat) (kd : Nat → Int32) (i : Nat) (hi : i < 2 ^ 31) (hc : cn ≤ 4096) : kx_Mi l yy_M_isHyphenated ww_M_isHyphenated ({ frames := 0, cells := 0, slots := 0, locals := 0 }) D vwCl (kx_ty cI cJ cZ) [.ref o, .int (nI i)] [(o, .inr (0, [.int (nI th), .int (nI cn), .ref a0, .ref a1, .ref a2, .ref a3, .ref a4, .ref a5, .int (nI mn), .ref a6, .ref a7, .int (nI ps), .int (nI bk), .ref a8, .ref a9, .ref a10, .ref a11, .ref a12, .ref a13, .ref a14, .ref a15, .int (nI kf), .int lb, .int (nI lc), .long lo, .int (nI el), .int (nI ec), .long eo, .int eb, .long ed, .int (nI mp), .int (nI ml), .long md, .long mo, .int mb, .ref a16, .ref a17])), (a0, .inl (cI, 4097, .inl kd))] sz (fun (r : Int32) (u : Unit) => r = kb_p (i < cn ∧ kd i = nI 4)) (fun (u : Unit) => [(o, .inr (0, [.int (nI th), .int (nI cn), .ref a0, .ref a1, .ref a2, .ref a3, .ref a4, .ref a5, .int (nI mn), .ref a6, .ref a7, .int (nI ps), .int (nI bk), .ref a8, .ref a9, .ref a10, .ref a11, .ref a12, .ref a13, .ref a14, .ref a15, .int (nI kf), .int lb, .int (nI lc), .long lo, .int (nI el), .int (nI ec), .long eo, .int eb, .long ed, .int (nI mp), .int (nI ml), .long md, .long mo, .int mb, .ref a16, .ref a17])), (a0, .inl (cI, 4097, .inl kd))]) 0 0 := by
  refine kx_starti (by decide) rfl (Nat.le_of_ble_eq_true rfl) ?_
  intro p e s m below meth c A ls hx hb hr hml hts hown hlocks hin hP hK hN hD hA hS hl
  have hl : lv_has ls 2 [(0, .ref o), (1, .int (nI i))] := hl
  have hown : s.vm.findClass rr_M = some m.cls := hown
  have lk0 := hts _ (kx_m kw_799)
  have hin0 : ∀ w ∈ u_ws rr_M tt_M 37, w ∈ ww_M_isHyphenated := fun w h => kx_m (kf_M w h)
  have lk2 := hts _ (kx_m kw_800)
  obtain ⟨H, hH⟩ : ∃ H, H = s.heap := ⟨_, rfl⟩
  obtain ⟨locs, hlocs⟩ : ∃ z : List Loc, z = [] := ⟨_, rfl⟩
  have hP : va_P D vwCl [(o, .inr (0, [.int (nI th), .int (nI cn), .ref a0, .ref a1, .ref a2, .ref a3, .ref a4, .ref a5, .int (nI mn), .ref a6, .ref a7, .int (nI ps), .int (nI bk), .ref a8, .ref a9, .ref a10, .ref a11, .ref a12, .ref a13, .ref a14, .ref a15, .int (nI kf), .int lb, .int (nI lc), .long lo, .int (nI el), .int (nI ec), .long eo, .int eb, .long ed, .int (nI mp), .int (nI ml), .long md, .long mo, .int mb, .ref a16, .ref a17])), (a0, .inl (cI, 4097, .inl kd))] H := by rw [hH]; exact hP
  have hS : va_S A s.heap H locs := by rw [hH, hlocs]; exact hS
  refine kx_gen hH hlocs ?_
  clear hH hlocs
  refine kx_nameQ (fun Q hQ => ?_)
  refine lv_iload_n hx hb dd_M_isHyphenated_0 rfl (lv_at hl 1 rfl) ?_
  refine lv_if_lt (tgt := 26) hx hb dd_M_isHyphenated_1 (by decide) (fun c1 => ?_) (fun c1 => ?_)
  · skip
    have c1 : i < 0 := (kn_lt0 (by omega)).mp c1
    exact absurd c1 (by omega)
  · skip
    have c1 : ¬ (i < 0) := fun h => c1 ((kn_lt0 (by omega)).mpr h)
    refine lv_iload_n hx hb dd_M_isHyphenated_4 rfl (lv_at hl 1 rfl) ?_
    refine lv_aload_n hx hb dd_M_isHyphenated_5 rfl (lv_at hl 0 rfl) ?_
    refine va_get (D := D) (ci := 0) (v := .int (nI cn)) (C := rr_M) (T := tt_M) (N := 37) hx hb hts hin0 hown hK hP 0 kg_2_0 rfl 1 (by decide) lk0 (fun _ h9 => h9) rfl dd_M_isHyphenated_6 ?_
    refine lv_icmp_ge (tgt := 26) hx hb dd_M_isHyphenated_9 (by decide) (fun c9 => ?_) (fun c9 => ?_)
    · skip
      have c9 : cn ≤ i := (nI_leI (by omega) (by omega)).mp c9
      refine lv_iconst (v := nI 0) hx hb dd_M_isHyphenated_26 (by decide) ?_
      rw [hQ]
      exact kx_zret hx hb hr hlocks hK hN hS dd_M_isHyphenated_27 (by decide) () hP hD (by clear hP hD hS hK hl hts; first | (refine kb_t ?_; simp_all; done) | (refine kb_f ?_; simp_all; done) | (refine kb_t ?_; simp_all <;> (intros; omega)) | (refine kb_f ?_; simp_all <;> (intros; omega)))
    · skip
      have c9 : ¬ (cn ≤ i) := fun h => c9 ((nI_leI (by omega) (by omega)).mpr h)
      refine lv_aload_n hx hb dd_M_isHyphenated_12 rfl (lv_at hl 0 rfl) ?_
      refine va_get (D := D) (ci := 0) (v := .ref a0) (C := rr_M) (T := tt_M) (N := 37) hx hb hts hin0 hown hK hP 0 kg_2_0 rfl 2 (by decide) lk2 (fun _ h9 => h9) rfl dd_M_isHyphenated_13 ?_
      refine lv_iload_n hx hb dd_M_isHyphenated_16 rfl (lv_at hl 1 rfl) ?_
      refine kx_iald (q0 := 1) (t0 := 0) hx hb dd_M_isHyphenated_17 hK hP kg_2_1 rfl (by omega) (by omega) ?_
      refine lv_iconst (v := nI 4) hx hb dd_M_isHyphenated_18 (by decide) ?_
      refine lv_icmp_ne (tgt := 26) hx hb dd_M_isHyphenated_19 (by decide) (fun c19 => ?_) (fun c19 => ?_)
      · skip
        refine lv_iconst (v := nI 0) hx hb dd_M_isHyphenated_26 (by decide) ?_
        rw [hQ]
        exact kx_zret hx hb hr hlocks hK hN hS dd_M_isHyphenated_27 (by decide) () hP hD (by clear hP hD hS hK hl hts; first | (refine kb_t ?_; simp_all; done) | (refine kb_f ?_; simp_all; done) | (refine kb_t ?_; simp_all <;> (intros; omega)) | (refine kb_f ?_; simp_all <;> (intros; omega)))
      · skip
        refine lv_iconst (v := nI 1) hx hb dd_M_isHyphenated_22 (by decide) ?_
        refine lv_goto (tgt := 27) hx hb dd_M_isHyphenated_23 (by decide) ?_
        rw [hQ]
        exact kx_zret hx hb hr hlocks hK hN hS dd_M_isHyphenated_27 (by decide) () hP hD (by clear hP hD hS hK hl hts; first | (refine kb_t ?_; simp_all; done) | (refine kb_f ?_; simp_all; done) | (refine kb_t ?_; simp_all <;> (intros; omega)) | (refine kb_f ?_; simp_all <;> (intros; omega)))


set_option maxHeartbeats 4000000 in
set_option maxRecDepth 100000 in
theorem ct_M_isHyphenated_n (l : Launch) (D : va_G) (cI cJ cZ : ClassId) (sz : Nat) (o : Nat) (th : Nat) (cn : Nat) (a0 : Nat) (a1 : Nat) (a2 : Nat) (a3 : Nat) (a4 : Nat) (a5 : Nat) (mn : Nat) (a6 : Nat) (a7 : Nat) (ps : Nat) (bk : Nat) (a8 : Nat) (a9 : Nat) (a10 : Nat) (a11 : Nat) (a12 : Nat) (a13 : Nat) (a14 : Nat) (a15 : Nat) (kf : Nat) (lb : Int32) (lc : Nat) (lo : Int64) (el : Nat) (ec : Nat) (eo : Int64) (eb : Int32) (ed : Int64) (mp : Nat) (ml : Nat) (md : Int64) (mo : Int64) (mb : Int32) (a16 : Nat) (a17 : Nat) (kd : Nat → Int32) : kx_Mi l yy_M_isHyphenated ww_M_isHyphenated ({ frames := 0, cells := 0, slots := 0, locals := 0 }) D vwCl (kx_ty cI cJ cZ) [.ref o, .int (-1)] [(o, .inr (0, [.int (nI th), .int (nI cn), .ref a0, .ref a1, .ref a2, .ref a3, .ref a4, .ref a5, .int (nI mn), .ref a6, .ref a7, .int (nI ps), .int (nI bk), .ref a8, .ref a9, .ref a10, .ref a11, .ref a12, .ref a13, .ref a14, .ref a15, .int (nI kf), .int lb, .int (nI lc), .long lo, .int (nI el), .int (nI ec), .long eo, .int eb, .long ed, .int (nI mp), .int (nI ml), .long md, .long mo, .int mb, .ref a16, .ref a17])), (a0, .inl (cI, 4097, .inl kd))] sz (fun (r : Int32) (u : Unit) => r = kb_p False) (fun (u : Unit) => [(o, .inr (0, [.int (nI th), .int (nI cn), .ref a0, .ref a1, .ref a2, .ref a3, .ref a4, .ref a5, .int (nI mn), .ref a6, .ref a7, .int (nI ps), .int (nI bk), .ref a8, .ref a9, .ref a10, .ref a11, .ref a12, .ref a13, .ref a14, .ref a15, .int (nI kf), .int lb, .int (nI lc), .long lo, .int (nI el), .int (nI ec), .long eo, .int eb, .long ed, .int (nI mp), .int (nI ml), .long md, .long mo, .int mb, .ref a16, .ref a17])), (a0, .inl (cI, 4097, .inl kd))]) 0 0 := by
  refine kx_starti (by decide) rfl (Nat.le_of_ble_eq_true rfl) ?_
  intro p e s m below meth c A ls hx hb hr hml hts hown hlocks hin hP hK hN hD hA hS hl
  have hl : lv_has ls 2 [(0, .ref o), (1, .int (-1))] := hl
  have hown : s.vm.findClass rr_M = some m.cls := hown
  obtain ⟨H, hH⟩ : ∃ H, H = s.heap := ⟨_, rfl⟩
  obtain ⟨locs, hlocs⟩ : ∃ z : List Loc, z = [] := ⟨_, rfl⟩
  have hP : va_P D vwCl [(o, .inr (0, [.int (nI th), .int (nI cn), .ref a0, .ref a1, .ref a2, .ref a3, .ref a4, .ref a5, .int (nI mn), .ref a6, .ref a7, .int (nI ps), .int (nI bk), .ref a8, .ref a9, .ref a10, .ref a11, .ref a12, .ref a13, .ref a14, .ref a15, .int (nI kf), .int lb, .int (nI lc), .long lo, .int (nI el), .int (nI ec), .long eo, .int eb, .long ed, .int (nI mp), .int (nI ml), .long md, .long mo, .int mb, .ref a16, .ref a17])), (a0, .inl (cI, 4097, .inl kd))] H := by rw [hH]; exact hP
  have hS : va_S A s.heap H locs := by rw [hH, hlocs]; exact hS
  refine kx_gen hH hlocs ?_
  clear hH hlocs
  refine kx_nameQ (fun Q hQ => ?_)
  refine lv_iload_n hx hb dd_M_isHyphenated_0 rfl (lv_at hl 1 rfl) ?_
  refine lv_if_lt (tgt := 26) hx hb dd_M_isHyphenated_1 (by decide) (fun _ => ?_) (fun h => absurd (by decide +kernel) h)
  refine lv_iconst (v := nI 0) hx hb dd_M_isHyphenated_26 (by decide) ?_
  rw [hQ]
  exact kx_zret hx hb hr hlocks hK hN hS dd_M_isHyphenated_27 (by decide) () hP hD (by clear hP hD hS hK hl hts; first | (refine kb_t ?_; simp_all; done) | (refine kb_f ?_; simp_all; done) | (refine kb_t ?_; simp_all <;> (intros; omega)) | (refine kb_f ?_; simp_all <;> (intros; omega)))

theorem dd_M_isWhole_0 : decode bb_M_isWhole 0 = .ok (.iload_n 1, 1) := by decide +kernel
theorem dd_M_isWhole_1 : decode bb_M_isWhole 1 = .ok (.ifCond .lt (25), 3) := by decide +kernel
theorem dd_M_isWhole_4 : decode bb_M_isWhole 4 = .ok (.aload_n 0, 1) := by decide +kernel
theorem dd_M_isWhole_5 : decode bb_M_isWhole 5 = .ok (.getfield 7, 3) := by decide +kernel
theorem dd_M_isWhole_8 : decode bb_M_isWhole 8 = .ok (.iload_n 1, 1) := by decide +kernel
theorem dd_M_isWhole_9 : decode bb_M_isWhole 9 = .ok (.iaload, 1) := by decide +kernel
theorem dd_M_isWhole_10 : decode bb_M_isWhole 10 = .ok (.iconst 4, 1) := by decide +kernel
theorem dd_M_isWhole_11 : decode bb_M_isWhole 11 = .ok (.if_icmp .ne (19), 3) := by decide +kernel
theorem dd_M_isWhole_14 : decode bb_M_isWhole 14 = .ok (.aload_n 0, 1) := by decide +kernel
theorem dd_M_isWhole_15 : decode bb_M_isWhole 15 = .ok (.getfield 19, 3) := by decide +kernel
theorem dd_M_isWhole_18 : decode bb_M_isWhole 18 = .ok (.iload_n 1, 1) := by decide +kernel
theorem dd_M_isWhole_19 : decode bb_M_isWhole 19 = .ok (.iaload, 1) := by decide +kernel
theorem dd_M_isWhole_20 : decode bb_M_isWhole 20 = .ok (.iconst 2, 1) := by decide +kernel
theorem dd_M_isWhole_21 : decode bb_M_isWhole 21 = .ok (.iand, 1) := by decide +kernel
theorem dd_M_isWhole_22 : decode bb_M_isWhole 22 = .ok (.iconst 2, 1) := by decide +kernel
theorem dd_M_isWhole_23 : decode bb_M_isWhole 23 = .ok (.if_icmp .ne (7), 3) := by decide +kernel
theorem dd_M_isWhole_26 : decode bb_M_isWhole 26 = .ok (.iconst 1, 1) := by decide +kernel
theorem dd_M_isWhole_27 : decode bb_M_isWhole 27 = .ok (.goto (4), 3) := by decide +kernel
theorem dd_M_isWhole_30 : decode bb_M_isWhole 30 = .ok (.iconst 0, 1) := by decide +kernel
theorem dd_M_isWhole_31 : decode bb_M_isWhole 31 = .ok (.ireturn, 1) := by decide +kernel

set_option maxHeartbeats 4000000 in
set_option maxRecDepth 100000 in
theorem ct_M_isWhole (l : Launch) (D : va_G) (cI cJ cZ : ClassId) (sz : Nat) (o : Nat) (th : Nat) (cn : Nat) (a0 : Nat) (a1 : Nat) (a2 : Nat) (a3 : Nat) (a4 : Nat) (a5 : Nat) (mn : Nat) (a6 : Nat) (a7 : Nat) (ps : Nat) (bk : Nat) (a8 : Nat) (a9 : Nat) (a10 : Nat) (a11 : Nat) (a12 : Nat) (a13 : Nat) (a14 : Nat) (a15 : Nat) (kf : Nat) (lb : Int32) (lc : Nat) (lo : Int64) (el : Nat) (ec : Nat) (eo : Int64) (eb : Int32) (ed : Int64) (mp : Nat) (ml : Nat) (md : Int64) (mo : Int64) (mb : Int32) (a16 : Nat) (a17 : Nat) (kd : Nat → Int32) (od : Nat → Int32) (i : Nat) (hi : i < 4097) : kx_Mi l yy_M_isWhole ww_M_isWhole ({ frames := 0, cells := 0, slots := 0, locals := 0 }) D vwCl (kx_ty cI cJ cZ) [.ref o, .int (nI i)] [(o, .inr (0, [.int (nI th), .int (nI cn), .ref a0, .ref a1, .ref a2, .ref a3, .ref a4, .ref a5, .int (nI mn), .ref a6, .ref a7, .int (nI ps), .int (nI bk), .ref a8, .ref a9, .ref a10, .ref a11, .ref a12, .ref a13, .ref a14, .ref a15, .int (nI kf), .int lb, .int (nI lc), .long lo, .int (nI el), .int (nI ec), .long eo, .int eb, .long ed, .int (nI mp), .int (nI ml), .long md, .long mo, .int mb, .ref a16, .ref a17])), (a0, .inl (cI, 4097, .inl kd)), (a3, .inl (cI, 4097, .inl od))] sz (fun (r : Int32) (u : Unit) => r = kb_p (kd i = nI 4 ∧ od i &&& nI 2 = nI 2)) (fun (u : Unit) => [(o, .inr (0, [.int (nI th), .int (nI cn), .ref a0, .ref a1, .ref a2, .ref a3, .ref a4, .ref a5, .int (nI mn), .ref a6, .ref a7, .int (nI ps), .int (nI bk), .ref a8, .ref a9, .ref a10, .ref a11, .ref a12, .ref a13, .ref a14, .ref a15, .int (nI kf), .int lb, .int (nI lc), .long lo, .int (nI el), .int (nI ec), .long eo, .int eb, .long ed, .int (nI mp), .int (nI ml), .long md, .long mo, .int mb, .ref a16, .ref a17])), (a0, .inl (cI, 4097, .inl kd)), (a3, .inl (cI, 4097, .inl od))]) 0 0 := by
  refine kx_starti (by decide) rfl (Nat.le_of_ble_eq_true rfl) ?_
  intro p e s m below meth c A ls hx hb hr hml hts hown hlocks hin hP hK hN hD hA hS hl
  have hl : lv_has ls 2 [(0, .ref o), (1, .int (nI i))] := hl
  have hown : s.vm.findClass rr_M = some m.cls := hown
  have lk0 := hts _ (kx_m kw_800)
  have hin0 : ∀ w ∈ u_ws rr_M tt_M 37, w ∈ ww_M_isWhole := fun w h => kx_m (kf_M w h)
  have lk2 := hts _ (kx_m kw_803)
  obtain ⟨H, hH⟩ : ∃ H, H = s.heap := ⟨_, rfl⟩
  obtain ⟨locs, hlocs⟩ : ∃ z : List Loc, z = [] := ⟨_, rfl⟩
  have hP : va_P D vwCl [(o, .inr (0, [.int (nI th), .int (nI cn), .ref a0, .ref a1, .ref a2, .ref a3, .ref a4, .ref a5, .int (nI mn), .ref a6, .ref a7, .int (nI ps), .int (nI bk), .ref a8, .ref a9, .ref a10, .ref a11, .ref a12, .ref a13, .ref a14, .ref a15, .int (nI kf), .int lb, .int (nI lc), .long lo, .int (nI el), .int (nI ec), .long eo, .int eb, .long ed, .int (nI mp), .int (nI ml), .long md, .long mo, .int mb, .ref a16, .ref a17])), (a0, .inl (cI, 4097, .inl kd)), (a3, .inl (cI, 4097, .inl od))] H := by rw [hH]; exact hP
  have hS : va_S A s.heap H locs := by rw [hH, hlocs]; exact hS
  refine kx_gen hH hlocs ?_
  clear hH hlocs
  refine kx_nameQ (fun Q hQ => ?_)
  refine lv_iload_n hx hb dd_M_isWhole_0 rfl (lv_at hl 1 rfl) ?_
  refine lv_if_lt (tgt := 26) hx hb dd_M_isWhole_1 (by decide) (fun c1 => ?_) (fun c1 => ?_)
  · skip
    have c1 : i < 0 := (kn_lt0 (by omega)).mp c1
    exact absurd c1 (by omega)
  · skip
    have c1 : ¬ (i < 0) := fun h => c1 ((kn_lt0 (by omega)).mpr h)
    refine lv_aload_n hx hb dd_M_isWhole_4 rfl (lv_at hl 0 rfl) ?_
    refine va_get (D := D) (ci := 0) (v := .ref a0) (C := rr_M) (T := tt_M) (N := 37) hx hb hts hin0 hown hK hP 0 kg_3_0 rfl 2 (by decide) lk0 (fun _ h9 => h9) rfl dd_M_isWhole_5 ?_
    refine lv_iload_n hx hb dd_M_isWhole_8 rfl (lv_at hl 1 rfl) ?_
    refine kx_iald (q0 := 1) (t0 := 0) hx hb dd_M_isWhole_9 hK hP kg_3_1 rfl (by omega) (by omega) ?_
    refine lv_iconst (v := nI 4) hx hb dd_M_isWhole_10 (by decide) ?_
    refine lv_icmp_ne (tgt := 30) hx hb dd_M_isWhole_11 (by decide) (fun c11 => ?_) (fun c11 => ?_)
    · skip
      refine lv_iconst (v := nI 0) hx hb dd_M_isWhole_30 (by decide) ?_
      rw [hQ]
      exact kx_zret hx hb hr hlocks hK hN hS dd_M_isWhole_31 (by decide) () hP hD (by clear hP hD hS hK hl hts; first | (refine kb_t ?_; simp_all; done) | (refine kb_f ?_; simp_all; done) | (refine kb_t ?_; simp_all <;> (intros; omega)) | (refine kb_f ?_; simp_all <;> (intros; omega)))
    · skip
      refine lv_aload_n hx hb dd_M_isWhole_14 rfl (lv_at hl 0 rfl) ?_
      refine va_get (D := D) (ci := 0) (v := .ref a3) (C := rr_M) (T := tt_M) (N := 37) hx hb hts hin0 hown hK hP 0 kg_3_0 rfl 5 (by decide) lk2 (fun _ h9 => h9) rfl dd_M_isWhole_15 ?_
      refine lv_iload_n hx hb dd_M_isWhole_18 rfl (lv_at hl 1 rfl) ?_
      refine kx_iald (q0 := 2) (t0 := 0) hx hb dd_M_isWhole_19 hK hP kg_3_2 rfl (by omega) (by omega) ?_
      refine lv_iconst (v := nI 2) hx hb dd_M_isWhole_20 (by decide) ?_
      refine lv_iand hx hb dd_M_isWhole_21 ?_
      refine lv_iconst (v := nI 2) hx hb dd_M_isWhole_22 (by decide) ?_
      refine lv_icmp_ne (tgt := 30) hx hb dd_M_isWhole_23 (by decide) (fun c23 => ?_) (fun c23 => ?_)
      · skip
        refine lv_iconst (v := nI 0) hx hb dd_M_isWhole_30 (by decide) ?_
        rw [hQ]
        exact kx_zret hx hb hr hlocks hK hN hS dd_M_isWhole_31 (by decide) () hP hD (by clear hP hD hS hK hl hts; first | (refine kb_t ?_; simp_all; done) | (refine kb_f ?_; simp_all; done) | (refine kb_t ?_; simp_all <;> (intros; omega)) | (refine kb_f ?_; simp_all <;> (intros; omega)))
      · skip
        refine lv_iconst (v := nI 1) hx hb dd_M_isWhole_26 (by decide) ?_
        refine lv_goto (tgt := 31) hx hb dd_M_isWhole_27 (by decide) ?_
        rw [hQ]
        exact kx_zret hx hb hr hlocks hK hN hS dd_M_isWhole_31 (by decide) () hP hD (by clear hP hD hS hK hl hts; first | (refine kb_t ?_; simp_all; done) | (refine kb_f ?_; simp_all; done) | (refine kb_t ?_; simp_all <;> (intros; omega)) | (refine kb_f ?_; simp_all <;> (intros; omega)))


set_option maxHeartbeats 4000000 in
set_option maxRecDepth 100000 in
theorem ct_M_isWhole_n (l : Launch) (D : va_G) (cI cJ cZ : ClassId) (sz : Nat) (o : Nat) (th : Nat) (cn : Nat) (a0 : Nat) (a1 : Nat) (a2 : Nat) (a3 : Nat) (a4 : Nat) (a5 : Nat) (mn : Nat) (a6 : Nat) (a7 : Nat) (ps : Nat) (bk : Nat) (a8 : Nat) (a9 : Nat) (a10 : Nat) (a11 : Nat) (a12 : Nat) (a13 : Nat) (a14 : Nat) (a15 : Nat) (kf : Nat) (lb : Int32) (lc : Nat) (lo : Int64) (el : Nat) (ec : Nat) (eo : Int64) (eb : Int32) (ed : Int64) (mp : Nat) (ml : Nat) (md : Int64) (mo : Int64) (mb : Int32) (a16 : Nat) (a17 : Nat) (kd : Nat → Int32) (od : Nat → Int32) : kx_Mi l yy_M_isWhole ww_M_isWhole ({ frames := 0, cells := 0, slots := 0, locals := 0 }) D vwCl (kx_ty cI cJ cZ) [.ref o, .int (-1)] [(o, .inr (0, [.int (nI th), .int (nI cn), .ref a0, .ref a1, .ref a2, .ref a3, .ref a4, .ref a5, .int (nI mn), .ref a6, .ref a7, .int (nI ps), .int (nI bk), .ref a8, .ref a9, .ref a10, .ref a11, .ref a12, .ref a13, .ref a14, .ref a15, .int (nI kf), .int lb, .int (nI lc), .long lo, .int (nI el), .int (nI ec), .long eo, .int eb, .long ed, .int (nI mp), .int (nI ml), .long md, .long mo, .int mb, .ref a16, .ref a17])), (a0, .inl (cI, 4097, .inl kd)), (a3, .inl (cI, 4097, .inl od))] sz (fun (r : Int32) (u : Unit) => r = kb_p True) (fun (u : Unit) => [(o, .inr (0, [.int (nI th), .int (nI cn), .ref a0, .ref a1, .ref a2, .ref a3, .ref a4, .ref a5, .int (nI mn), .ref a6, .ref a7, .int (nI ps), .int (nI bk), .ref a8, .ref a9, .ref a10, .ref a11, .ref a12, .ref a13, .ref a14, .ref a15, .int (nI kf), .int lb, .int (nI lc), .long lo, .int (nI el), .int (nI ec), .long eo, .int eb, .long ed, .int (nI mp), .int (nI ml), .long md, .long mo, .int mb, .ref a16, .ref a17])), (a0, .inl (cI, 4097, .inl kd)), (a3, .inl (cI, 4097, .inl od))]) 0 0 := by
  refine kx_starti (by decide) rfl (Nat.le_of_ble_eq_true rfl) ?_
  intro p e s m below meth c A ls hx hb hr hml hts hown hlocks hin hP hK hN hD hA hS hl
  have hl : lv_has ls 2 [(0, .ref o), (1, .int (-1))] := hl
  have hown : s.vm.findClass rr_M = some m.cls := hown
  obtain ⟨H, hH⟩ : ∃ H, H = s.heap := ⟨_, rfl⟩
  obtain ⟨locs, hlocs⟩ : ∃ z : List Loc, z = [] := ⟨_, rfl⟩
  have hP : va_P D vwCl [(o, .inr (0, [.int (nI th), .int (nI cn), .ref a0, .ref a1, .ref a2, .ref a3, .ref a4, .ref a5, .int (nI mn), .ref a6, .ref a7, .int (nI ps), .int (nI bk), .ref a8, .ref a9, .ref a10, .ref a11, .ref a12, .ref a13, .ref a14, .ref a15, .int (nI kf), .int lb, .int (nI lc), .long lo, .int (nI el), .int (nI ec), .long eo, .int eb, .long ed, .int (nI mp), .int (nI ml), .long md, .long mo, .int mb, .ref a16, .ref a17])), (a0, .inl (cI, 4097, .inl kd)), (a3, .inl (cI, 4097, .inl od))] H := by rw [hH]; exact hP
  have hS : va_S A s.heap H locs := by rw [hH, hlocs]; exact hS
  refine kx_gen hH hlocs ?_
  clear hH hlocs
  refine kx_nameQ (fun Q hQ => ?_)
  refine lv_iload_n hx hb dd_M_isWhole_0 rfl (lv_at hl 1 rfl) ?_
  refine lv_if_lt (tgt := 26) hx hb dd_M_isWhole_1 (by decide) (fun _ => ?_) (fun h => absurd (by decide +kernel) h)
  refine lv_iconst (v := nI 1) hx hb dd_M_isWhole_26 (by decide) ?_
  refine lv_goto (tgt := 31) hx hb dd_M_isWhole_27 (by decide) ?_
  rw [hQ]
  exact kx_zret hx hb hr hlocks hK hN hS dd_M_isWhole_31 (by decide) () hP hD (by clear hP hD hS hK hl hts; first | (refine kb_t ?_; simp_all; done) | (refine kb_f ?_; simp_all; done) | (refine kb_t ?_; simp_all <;> (intros; omega)) | (refine kb_f ?_; simp_all <;> (intros; omega)))

theorem dd_M_badness_0 : decode bb_M_badness 0 = .ok (.lload_n 0, 1) := by decide +kernel
theorem dd_M_badness_1 : decode bb_M_badness 1 = .ok (.lconst 0, 1) := by decide +kernel
theorem dd_M_badness_2 : decode bb_M_badness 2 = .ok (.lcmp, 1) := by decide +kernel
theorem dd_M_badness_3 : decode bb_M_badness 3 = .ok (.ifCond .eq (9), 3) := by decide +kernel
theorem dd_M_badness_6 : decode bb_M_badness 6 = .ok (.lload_n 2, 1) := by decide +kernel
theorem dd_M_badness_7 : decode bb_M_badness 7 = .ok (.lconst 0, 1) := by decide +kernel
theorem dd_M_badness_8 : decode bb_M_badness 8 = .ok (.lcmp, 1) := by decide +kernel
theorem dd_M_badness_9 : decode bb_M_badness 9 = .ok (.ifCond .ne (17), 3) := by decide +kernel
theorem dd_M_badness_12 : decode bb_M_badness 12 = .ok (.lload_n 0, 1) := by decide +kernel
theorem dd_M_badness_13 : decode bb_M_badness 13 = .ok (.lconst 0, 1) := by decide +kernel
theorem dd_M_badness_14 : decode bb_M_badness 14 = .ok (.lcmp, 1) := by decide +kernel
theorem dd_M_badness_15 : decode bb_M_badness 15 = .ok (.ifCond .ne (7), 3) := by decide +kernel
theorem dd_M_badness_18 : decode bb_M_badness 18 = .ok (.iconst 0, 1) := by decide +kernel
theorem dd_M_badness_19 : decode bb_M_badness 19 = .ok (.goto (6), 3) := by decide +kernel
theorem dd_M_badness_22 : decode bb_M_badness 22 = .ok (.sipush (10000), 3) := by decide +kernel
theorem dd_M_badness_25 : decode bb_M_badness 25 = .ok (.ireturn, 1) := by decide +kernel
theorem dd_M_badness_26 : decode bb_M_badness 26 = .ok (.ldc2_w 101, 3) := by decide +kernel
theorem dd_M_badness_29 : decode bb_M_badness 29 = .ok (.lload_n 0, 1) := by decide +kernel
theorem dd_M_badness_30 : decode bb_M_badness 30 = .ok (.lmul, 1) := by decide +kernel
theorem dd_M_badness_31 : decode bb_M_badness 31 = .ok (.lload_n 2, 1) := by decide +kernel
theorem dd_M_badness_32 : decode bb_M_badness 32 = .ok (.ldiv, 1) := by decide +kernel
theorem dd_M_badness_33 : decode bb_M_badness 33 = .ok (.lstore 4, 2) := by decide +kernel
theorem dd_M_badness_35 : decode bb_M_badness 35 = .ok (.lload 4, 2) := by decide +kernel
theorem dd_M_badness_37 : decode bb_M_badness 37 = .ok (.ldc2_w 103, 3) := by decide +kernel
theorem dd_M_badness_40 : decode bb_M_badness 40 = .ok (.lcmp, 1) := by decide +kernel
theorem dd_M_badness_41 : decode bb_M_badness 41 = .ok (.ifCond .le (9), 3) := by decide +kernel
theorem dd_M_badness_44 : decode bb_M_badness 44 = .ok (.sipush (10000), 3) := by decide +kernel
theorem dd_M_badness_47 : decode bb_M_badness 47 = .ok (.goto (20), 3) := by decide +kernel
theorem dd_M_badness_50 : decode bb_M_badness 50 = .ok (.lload 4, 2) := by decide +kernel
theorem dd_M_badness_52 : decode bb_M_badness 52 = .ok (.lload 4, 2) := by decide +kernel
theorem dd_M_badness_54 : decode bb_M_badness 54 = .ok (.lmul, 1) := by decide +kernel
theorem dd_M_badness_55 : decode bb_M_badness 55 = .ok (.lload 4, 2) := by decide +kernel
theorem dd_M_badness_57 : decode bb_M_badness 57 = .ok (.lmul, 1) := by decide +kernel
theorem dd_M_badness_58 : decode bb_M_badness 58 = .ok (.ldc2_w 105, 3) := by decide +kernel
theorem dd_M_badness_61 : decode bb_M_badness 61 = .ok (.ladd, 1) := by decide +kernel
theorem dd_M_badness_62 : decode bb_M_badness 62 = .ok (.ldc2_w 107, 3) := by decide +kernel
theorem dd_M_badness_65 : decode bb_M_badness 65 = .ok (.ldiv, 1) := by decide +kernel
theorem dd_M_badness_66 : decode bb_M_badness 66 = .ok (.l2i, 1) := by decide +kernel
theorem dd_M_badness_67 : decode bb_M_badness 67 = .ok (.ireturn, 1) := by decide +kernel

set_option maxHeartbeats 4000000 in
set_option maxRecDepth 100000 in
theorem ct_M_badness (l : Launch) (D : va_G) (cI cJ cZ : ClassId) (sz : Nat) (t : Int64) (s2 : Int64) : kx_Mi l yy_M_badness ww_M_badness ({ frames := 0, cells := 0, slots := 0, locals := 0 }) D vwCl (kx_ty cI cJ cZ) [.long t, .long s2] [] sz (fun (r : Int32) (u : Unit) => r = pm_bad t s2) (fun (u : Unit) => []) 0 0 := by
  refine kx_starti (by decide) rfl (Nat.le_of_ble_eq_true rfl) ?_
  intro p e s m below meth c A ls hx hb hr hml hts hown hlocks hin hP hK hN hD hA hS hl
  have hl : lv_has ls 6 [(0, .long t), (2, .long s2)] := hl
  have hown : s.vm.findClass rr_M = some m.cls := hown
  have lk0 := hts _ (kx_m kw_1010)
  have lk1 := hts _ (kx_m kw_1011)
  have lk2 := hts _ (kx_m kw_1012)
  have lk3 := hts _ (kx_m kw_1013)
  obtain ⟨H, hH⟩ : ∃ H, H = s.heap := ⟨_, rfl⟩
  obtain ⟨locs, hlocs⟩ : ∃ z : List Loc, z = [] := ⟨_, rfl⟩
  have hP : va_P D vwCl [] H := by rw [hH]; exact hP
  have hS : va_S A s.heap H locs := by rw [hH, hlocs]; exact hS
  refine kx_gen hH hlocs ?_
  clear hH hlocs
  refine kx_nameQ (fun Q hQ => ?_)
  refine lv_lload_n hx hb dd_M_badness_0 rfl (lv_at hl 0 rfl) ?_
  refine lv_lconst (v := 0) hx hb dd_M_badness_1 (by decide) ?_
  refine W.lcmp hx hb dd_M_badness_2 ?_
  refine lv_if_eq (tgt := 12) hx hb dd_M_badness_3 (by decide) (fun c3 => ?_) (fun c3 => ?_)
  · skip
    have c3 := (lg_cmp_eq _ _).mp c3
    refine lv_lload_n hx hb dd_M_badness_12 rfl (lv_at hl 0 rfl) ?_
    refine lv_lconst (v := 0) hx hb dd_M_badness_13 (by decide) ?_
    refine W.lcmp hx hb dd_M_badness_14 ?_
    refine lv_if_ne (tgt := 22) hx hb dd_M_badness_15 (by decide) (fun c15 => ?_) (fun c15 => ?_)
    · skip
      have c15 : ¬ (t = (0 : Int64)) := fun h => c15 ((lg_cmp_eq _ _).mpr h)
      refine lv_sipush (v := nI 10000) hx hb dd_M_badness_22 (by decide) ?_
      rw [hQ]
      exact kx_iret hx hb hr hlocks hK hN hS dd_M_badness_25 () hP hD (by first | exact absurd c3 c15 | simp only [pm_bad, c3, c15, if_true, if_false])
    · skip
      have c15 := (lg_cmp_eq _ _).mp c15
      refine lv_iconst (v := nI 0) hx hb dd_M_badness_18 (by decide) ?_
      refine lv_goto (tgt := 25) hx hb dd_M_badness_19 (by decide) ?_
      rw [hQ]
      exact kx_iret hx hb hr hlocks hK hN hS dd_M_badness_25 () hP hD (by first | exact absurd c3 c15 | simp only [pm_bad, c3, c15, if_true, if_false])
  · skip
    have c3 : ¬ (t = (0 : Int64)) := fun h => c3 ((lg_cmp_eq _ _).mpr h)
    refine lv_lload_n hx hb dd_M_badness_6 rfl (lv_at hl 1 rfl) ?_
    refine lv_lconst (v := 0) hx hb dd_M_badness_7 (by decide) ?_
    refine W.lcmp hx hb dd_M_badness_8 ?_
    refine lv_if_ne (tgt := 26) hx hb dd_M_badness_9 (by decide) (fun c9 => ?_) (fun c9 => ?_)
    · skip
      have c9 : ¬ (s2 = (0 : Int64)) := fun h => c9 ((lg_cmp_eq _ _).mpr h)
      refine lv_ldc2 (v := (297)) hx hb hown lk0 dd_M_badness_26 ?_
      refine lv_lload_n hx hb dd_M_badness_29 rfl (lv_at hl 0 rfl) ?_
      refine lv_lmul hx hb dd_M_badness_30 ?_
      refine lv_lload_n hx hb dd_M_badness_31 rfl (lv_at hl 1 rfl) ?_
      refine lv_ldiv hx hb dd_M_badness_32 (by first | assumption | decide) ?_
      refine lv_lstore (lv' := [(4, .long (((297 : Int64) * t) / s2)), (0, .long t), (2, .long s2)]) hx hb dd_M_badness_33 hl (by decide) rfl (fun ls hl => ?_)
      refine lv_lload hx hb dd_M_badness_35 (lv_at hl 0 rfl) ?_
      refine lv_ldc2 (v := (1290)) hx hb hown lk1 dd_M_badness_37 ?_
      refine W.lcmp hx hb dd_M_badness_40 ?_
      refine lv_if_le (tgt := 50) hx hb dd_M_badness_41 (by decide) (fun c41 => ?_) (fun c41 => ?_)
      · skip
        have c41 := (lg_cmp_le _ _).mp c41
        refine lv_lload hx hb dd_M_badness_50 (lv_at hl 0 rfl) ?_
        refine lv_lload hx hb dd_M_badness_52 (lv_at hl 0 rfl) ?_
        refine lv_lmul hx hb dd_M_badness_54 ?_
        refine lv_lload hx hb dd_M_badness_55 (lv_at hl 0 rfl) ?_
        refine lv_lmul hx hb dd_M_badness_57 ?_
        refine lv_ldc2 (v := (131072)) hx hb hown lk2 dd_M_badness_58 ?_
        refine lv_ladd hx hb dd_M_badness_61 ?_
        refine lv_ldc2 (v := (262144)) hx hb hown lk3 dd_M_badness_62 ?_
        refine lv_ldiv hx hb dd_M_badness_65 (by first | assumption | decide) ?_
        refine lv_l2i hx hb dd_M_badness_66 rfl ?_
        rw [hQ]
        exact kx_iret hx hb hr hlocks hK hN hS dd_M_badness_67 () hP hD (by first | exact absurd c3 c15 | simp only [pm_bad, c3, c9, c41, if_true, if_false])
      · skip
        have c41 : ¬ ((((297 : Int64) * t) / s2) ≤ (1290 : Int64)) := fun h => c41 ((lg_cmp_le _ _).mpr h)
        refine lv_sipush (v := nI 10000) hx hb dd_M_badness_44 (by decide) ?_
        refine lv_goto (tgt := 67) hx hb dd_M_badness_47 (by decide) ?_
        rw [hQ]
        exact kx_iret hx hb hr hlocks hK hN hS dd_M_badness_67 () hP hD (by first | exact absurd c3 c15 | simp only [pm_bad, c3, c9, c41, if_true, if_false])
    · skip
      have c9 := (lg_cmp_eq _ _).mp c9
      refine lv_lload_n hx hb dd_M_badness_12 rfl (lv_at hl 0 rfl) ?_
      refine lv_lconst (v := 0) hx hb dd_M_badness_13 (by decide) ?_
      refine W.lcmp hx hb dd_M_badness_14 ?_
      refine lv_if_ne (tgt := 22) hx hb dd_M_badness_15 (by decide) (fun c15 => ?_) (fun c15 => ?_)
      · skip
        have c15 : ¬ (t = (0 : Int64)) := fun h => c15 ((lg_cmp_eq _ _).mpr h)
        refine lv_sipush (v := nI 10000) hx hb dd_M_badness_22 (by decide) ?_
        rw [hQ]
        exact kx_iret hx hb hr hlocks hK hN hS dd_M_badness_25 () hP hD (by first | exact absurd c3 c15 | simp only [pm_bad, c3, c9, c15, if_true, if_false])
      · skip
        have c15 := (lg_cmp_eq _ _).mp c15
        refine lv_iconst (v := nI 0) hx hb dd_M_badness_18 (by decide) ?_
        refine lv_goto (tgt := 25) hx hb dd_M_badness_19 (by decide) ?_
        rw [hQ]
        exact kx_iret hx hb hr hlocks hK hN hS dd_M_badness_25 () hP hD (by first | exact absurd c3 c15 | simp only [pm_bad, c3, c9, c15, if_true, if_false])

theorem dd_M_fits_0 : decode bb_M_fits 0 = .ok (.aload_n 0, 1) := by decide +kernel
theorem dd_M_fits_1 : decode bb_M_fits 1 = .ok (.getfield 92, 3) := by decide +kernel
theorem dd_M_fits_4 : decode bb_M_fits 4 = .ok (.iconst 3, 1) := by decide +kernel
theorem dd_M_fits_5 : decode bb_M_fits 5 = .ok (.if_icmp .eq (30), 3) := by decide +kernel
theorem dd_M_fits_8 : decode bb_M_fits 8 = .ok (.aload_n 0, 1) := by decide +kernel
theorem dd_M_fits_9 : decode bb_M_fits 9 = .ok (.getfield 118, 3) := by decide +kernel
theorem dd_M_fits_12 : decode bb_M_fits 12 = .ok (.lconst 0, 1) := by decide +kernel
theorem dd_M_fits_13 : decode bb_M_fits 13 = .ok (.lcmp, 1) := by decide +kernel
theorem dd_M_fits_14 : decode bb_M_fits 14 = .ok (.ifCond .ne (25), 3) := by decide +kernel
theorem dd_M_fits_17 : decode bb_M_fits 17 = .ok (.aload_n 0, 1) := by decide +kernel
theorem dd_M_fits_18 : decode bb_M_fits 18 = .ok (.getfield 126, 3) := by decide +kernel
theorem dd_M_fits_21 : decode bb_M_fits 21 = .ok (.aload_n 0, 1) := by decide +kernel
theorem dd_M_fits_22 : decode bb_M_fits 22 = .ok (.getfield 25, 3) := by decide +kernel
theorem dd_M_fits_25 : decode bb_M_fits 25 = .ok (.aload_n 0, 1) := by decide +kernel
theorem dd_M_fits_26 : decode bb_M_fits 26 = .ok (.getfield 92, 3) := by decide +kernel
theorem dd_M_fits_29 : decode bb_M_fits 29 = .ok (.iconst 1, 1) := by decide +kernel
theorem dd_M_fits_30 : decode bb_M_fits 30 = .ok (.isub, 1) := by decide +kernel
theorem dd_M_fits_31 : decode bb_M_fits 31 = .ok (.iaload, 1) := by decide +kernel
theorem dd_M_fits_32 : decode bb_M_fits 32 = .ok (.if_icmp .gt (7), 3) := by decide +kernel
theorem dd_M_fits_35 : decode bb_M_fits 35 = .ok (.iconst 1, 1) := by decide +kernel
theorem dd_M_fits_36 : decode bb_M_fits 36 = .ok (.goto (4), 3) := by decide +kernel
theorem dd_M_fits_39 : decode bb_M_fits 39 = .ok (.iconst 0, 1) := by decide +kernel
theorem dd_M_fits_40 : decode bb_M_fits 40 = .ok (.ireturn, 1) := by decide +kernel

set_option maxHeartbeats 4000000 in
set_option maxRecDepth 100000 in
theorem ct_M_fits (l : Launch) (D : va_G) (cI cJ cZ : ClassId) (sz : Nat) (o : Nat) (th : Nat) (cn : Nat) (a0 : Nat) (a1 : Nat) (a2 : Nat) (a3 : Nat) (a4 : Nat) (a5 : Nat) (mn : Nat) (a6 : Nat) (a7 : Nat) (ps : Nat) (bk : Nat) (a8 : Nat) (a9 : Nat) (a10 : Nat) (a11 : Nat) (a12 : Nat) (a13 : Nat) (a14 : Nat) (a15 : Nat) (kf : Nat) (lb : Int32) (lc : Nat) (lo : Int64) (el : Nat) (ec : Nat) (eo : Int64) (eb : Int32) (ed : Int64) (mp : Nat) (ml : Nat) (md : Int64) (mo : Int64) (mb : Int32) (a16 : Nat) (a17 : Nat) (ru : Nat → Int32) (h1 : 1 ≤ ps) (h3 : ps ≤ 3) : kx_Mi l yy_M_fits ww_M_fits ({ frames := 0, cells := 0, slots := 0, locals := 0 }) D vwCl (kx_ty cI cJ cZ) [.ref o] [(o, .inr (0, [.int (nI th), .int (nI cn), .ref a0, .ref a1, .ref a2, .ref a3, .ref a4, .ref a5, .int (nI mn), .ref a6, .ref a7, .int (nI ps), .int (nI bk), .ref a8, .ref a9, .ref a10, .ref a11, .ref a12, .ref a13, .ref a14, .ref a15, .int (nI kf), .int lb, .int (nI lc), .long lo, .int (nI el), .int (nI ec), .long eo, .int eb, .long ed, .int (nI mp), .int (nI ml), .long md, .long mo, .int mb, .ref a16, .ref a17])), (a5, .inl (cI, 9, .inl ru))] sz (fun (r : Int32) (u : Unit) => r = kb_p (ps = 3 ∨ (lo = 0 ∧ ¬ ru (ps - 1) < lb))) (fun (u : Unit) => [(o, .inr (0, [.int (nI th), .int (nI cn), .ref a0, .ref a1, .ref a2, .ref a3, .ref a4, .ref a5, .int (nI mn), .ref a6, .ref a7, .int (nI ps), .int (nI bk), .ref a8, .ref a9, .ref a10, .ref a11, .ref a12, .ref a13, .ref a14, .ref a15, .int (nI kf), .int lb, .int (nI lc), .long lo, .int (nI el), .int (nI ec), .long eo, .int eb, .long ed, .int (nI mp), .int (nI ml), .long md, .long mo, .int mb, .ref a16, .ref a17])), (a5, .inl (cI, 9, .inl ru))]) 0 0 := by
  refine kx_starti (by decide) rfl (Nat.le_of_ble_eq_true rfl) ?_
  intro p e s m below meth c A ls hx hb hr hml hts hown hlocks hin hP hK hN hD hA hS hl
  have hl : lv_has ls 1 [(0, .ref o)] := hl
  have hown : s.vm.findClass rr_M = some m.cls := hown
  have lk0 := hts _ (kx_m kw_809)
  have hin0 : ∀ w ∈ u_ws rr_M tt_M 37, w ∈ ww_M_fits := fun w h => kx_m (kf_M w h)
  have lk2 := hts _ (kx_m kw_822)
  have lk3 := hts _ (kx_m kw_820)
  have lk4 := hts _ (kx_m kw_805)
  obtain ⟨H, hH⟩ : ∃ H, H = s.heap := ⟨_, rfl⟩
  obtain ⟨locs, hlocs⟩ : ∃ z : List Loc, z = [] := ⟨_, rfl⟩
  have hP : va_P D vwCl [(o, .inr (0, [.int (nI th), .int (nI cn), .ref a0, .ref a1, .ref a2, .ref a3, .ref a4, .ref a5, .int (nI mn), .ref a6, .ref a7, .int (nI ps), .int (nI bk), .ref a8, .ref a9, .ref a10, .ref a11, .ref a12, .ref a13, .ref a14, .ref a15, .int (nI kf), .int lb, .int (nI lc), .long lo, .int (nI el), .int (nI ec), .long eo, .int eb, .long ed, .int (nI mp), .int (nI ml), .long md, .long mo, .int mb, .ref a16, .ref a17])), (a5, .inl (cI, 9, .inl ru))] H := by rw [hH]; exact hP
  have hS : va_S A s.heap H locs := by rw [hH, hlocs]; exact hS
  refine kx_gen hH hlocs ?_
  clear hH hlocs
  refine kx_nameQ (fun Q hQ => ?_)
  refine lv_aload_n hx hb dd_M_fits_0 rfl (lv_at hl 0 rfl) ?_
  refine va_get (D := D) (ci := 0) (v := .int (nI ps)) (C := rr_M) (T := tt_M) (N := 37) hx hb hts hin0 hown hK hP 0 kg_2_0 rfl 11 (by decide) lk0 (fun _ h9 => h9) rfl dd_M_fits_1 ?_
  refine lv_iconst (v := nI 3) hx hb dd_M_fits_4 (by decide) ?_
  refine lv_icmp_eq (tgt := 35) hx hb dd_M_fits_5 (by decide) (fun c5 => ?_) (fun c5 => ?_)
  · skip
    have c5 : ps = 3 := (nI_eq (by omega) (by omega)).mp c5
    refine lv_iconst (v := nI 1) hx hb dd_M_fits_35 (by decide) ?_
    refine lv_goto (tgt := 40) hx hb dd_M_fits_36 (by decide) ?_
    rw [hQ]
    exact kx_zret hx hb hr hlocks hK hN hS dd_M_fits_40 (by decide) () hP hD (by clear hP hD hS hK hl hts; first | (refine kb_t ?_; simp_all; done) | (refine kb_f ?_; simp_all; done) | (refine kb_t ?_; simp_all <;> (intros; omega)) | (refine kb_f ?_; simp_all <;> (intros; omega)))
  · skip
    have c5 : ¬ (ps = 3) := fun h => c5 ((nI_eq (by omega) (by omega)).mpr h)
    refine lv_aload_n hx hb dd_M_fits_8 rfl (lv_at hl 0 rfl) ?_
    refine va_get (D := D) (ci := 0) (v := .long lo) (C := rr_M) (T := tt_M) (N := 37) hx hb hts hin0 hown hK hP 0 kg_2_0 rfl 24 (by decide) lk2 (fun _ h9 => h9) rfl dd_M_fits_9 ?_
    refine lv_lconst (v := 0) hx hb dd_M_fits_12 (by decide) ?_
    refine W.lcmp hx hb dd_M_fits_13 ?_
    refine lv_if_ne (tgt := 39) hx hb dd_M_fits_14 (by decide) (fun c14 => ?_) (fun c14 => ?_)
    · skip
      have c14 : ¬ (lo = (0 : Int64)) := fun h => c14 ((lg_cmp_eq _ _).mpr h)
      refine lv_iconst (v := nI 0) hx hb dd_M_fits_39 (by decide) ?_
      rw [hQ]
      exact kx_zret hx hb hr hlocks hK hN hS dd_M_fits_40 (by decide) () hP hD (by clear hP hD hS hK hl hts; first | (refine kb_t ?_; simp_all; done) | (refine kb_f ?_; simp_all; done) | (refine kb_t ?_; simp_all <;> (intros; omega)) | (refine kb_f ?_; simp_all <;> (intros; omega)))
    · skip
      have c14 := (lg_cmp_eq _ _).mp c14
      refine lv_aload_n hx hb dd_M_fits_17 rfl (lv_at hl 0 rfl) ?_
      refine va_get (D := D) (ci := 0) (v := .int lb) (C := rr_M) (T := tt_M) (N := 37) hx hb hts hin0 hown hK hP 0 kg_2_0 rfl 22 (by decide) lk3 (fun _ h9 => h9) rfl dd_M_fits_18 ?_
      refine lv_aload_n hx hb dd_M_fits_21 rfl (lv_at hl 0 rfl) ?_
      refine va_get (D := D) (ci := 0) (v := .ref a5) (C := rr_M) (T := tt_M) (N := 37) hx hb hts hin0 hown hK hP 0 kg_2_0 rfl 7 (by decide) lk4 (fun _ h9 => h9) rfl dd_M_fits_22 ?_
      refine lv_aload_n hx hb dd_M_fits_25 rfl (lv_at hl 0 rfl) ?_
      refine va_get (D := D) (ci := 0) (v := .int (nI ps)) (C := rr_M) (T := tt_M) (N := 37) hx hb hts hin0 hown hK hP 0 kg_2_0 rfl 11 (by decide) lk0 (fun _ h9 => h9) rfl dd_M_fits_26 ?_
      refine lv_iconst (v := nI 1) hx hb dd_M_fits_29 (by decide) ?_
      refine kx_isub hx hb dd_M_fits_30 (by omega) ?_
      refine kx_iald (q0 := 1) (t0 := 0) hx hb dd_M_fits_31 hK hP kg_2_1 rfl (by omega) (by omega) ?_
      refine lv_icmp_gt (tgt := 39) hx hb dd_M_fits_32 (by decide) (fun c32 => ?_) (fun c32 => ?_)
      · skip
        refine lv_iconst (v := nI 0) hx hb dd_M_fits_39 (by decide) ?_
        rw [hQ]
        exact kx_zret hx hb hr hlocks hK hN hS dd_M_fits_40 (by decide) () hP hD (by clear hP hD hS hK hl hts; first | (refine kb_t ?_; simp_all; done) | (refine kb_f ?_; simp_all; done) | (refine kb_t ?_; simp_all <;> (intros; omega)) | (refine kb_f ?_; simp_all <;> (intros; omega)))
      · skip
        refine lv_iconst (v := nI 1) hx hb dd_M_fits_35 (by decide) ?_
        refine lv_goto (tgt := 40) hx hb dd_M_fits_36 (by decide) ?_
        rw [hQ]
        exact kx_zret hx hb hr hlocks hK hN hS dd_M_fits_40 (by decide) () hP hD (by clear hP hD hS hK hl hts; first | (refine kb_t ?_; simp_all; done) | (refine kb_f ?_; simp_all; done) | (refine kb_t ?_; simp_all <;> (intros; omega)) | (refine kb_f ?_; simp_all <;> (intros; omega)))

theorem dd_M_above_0 : decode bb_M_above 0 = .ok (.aload_n 0, 1) := by decide +kernel
theorem dd_M_above_1 : decode bb_M_above 1 = .ok (.getfield 126, 3) := by decide +kernel
theorem dd_M_above_4 : decode bb_M_above 4 = .ok (.aload_n 0, 1) := by decide +kernel
theorem dd_M_above_5 : decode bb_M_above 5 = .ok (.getfield 25, 3) := by decide +kernel
theorem dd_M_above_8 : decode bb_M_above 8 = .ok (.iconst 1, 1) := by decide +kernel
theorem dd_M_above_9 : decode bb_M_above 9 = .ok (.iaload, 1) := by decide +kernel
theorem dd_M_above_10 : decode bb_M_above 10 = .ok (.if_icmp .le (7), 3) := by decide +kernel
theorem dd_M_above_13 : decode bb_M_above 13 = .ok (.iconst 1, 1) := by decide +kernel
theorem dd_M_above_14 : decode bb_M_above 14 = .ok (.goto (4), 3) := by decide +kernel
theorem dd_M_above_17 : decode bb_M_above 17 = .ok (.iconst 0, 1) := by decide +kernel
theorem dd_M_above_18 : decode bb_M_above 18 = .ok (.ireturn, 1) := by decide +kernel

set_option maxHeartbeats 4000000 in
set_option maxRecDepth 100000 in
theorem ct_M_above (l : Launch) (D : va_G) (cI cJ cZ : ClassId) (sz : Nat) (o : Nat) (th : Nat) (cn : Nat) (a0 : Nat) (a1 : Nat) (a2 : Nat) (a3 : Nat) (a4 : Nat) (a5 : Nat) (mn : Nat) (a6 : Nat) (a7 : Nat) (ps : Nat) (bk : Nat) (a8 : Nat) (a9 : Nat) (a10 : Nat) (a11 : Nat) (a12 : Nat) (a13 : Nat) (a14 : Nat) (a15 : Nat) (kf : Nat) (lb : Int32) (lc : Nat) (lo : Int64) (el : Nat) (ec : Nat) (eo : Int64) (eb : Int32) (ed : Int64) (mp : Nat) (ml : Nat) (md : Int64) (mo : Int64) (mb : Int32) (a16 : Nat) (a17 : Nat) (ru : Nat → Int32) : kx_Mi l yy_M_above ww_M_above ({ frames := 0, cells := 0, slots := 0, locals := 0 }) D vwCl (kx_ty cI cJ cZ) [.ref o] [(o, .inr (0, [.int (nI th), .int (nI cn), .ref a0, .ref a1, .ref a2, .ref a3, .ref a4, .ref a5, .int (nI mn), .ref a6, .ref a7, .int (nI ps), .int (nI bk), .ref a8, .ref a9, .ref a10, .ref a11, .ref a12, .ref a13, .ref a14, .ref a15, .int (nI kf), .int lb, .int (nI lc), .long lo, .int (nI el), .int (nI ec), .long eo, .int eb, .long ed, .int (nI mp), .int (nI ml), .long md, .long mo, .int mb, .ref a16, .ref a17])), (a5, .inl (cI, 9, .inl ru))] sz (fun (r : Int32) (u : Unit) => r = nI (pm_ab lb (ru 1))) (fun (u : Unit) => [(o, .inr (0, [.int (nI th), .int (nI cn), .ref a0, .ref a1, .ref a2, .ref a3, .ref a4, .ref a5, .int (nI mn), .ref a6, .ref a7, .int (nI ps), .int (nI bk), .ref a8, .ref a9, .ref a10, .ref a11, .ref a12, .ref a13, .ref a14, .ref a15, .int (nI kf), .int lb, .int (nI lc), .long lo, .int (nI el), .int (nI ec), .long eo, .int eb, .long ed, .int (nI mp), .int (nI ml), .long md, .long mo, .int mb, .ref a16, .ref a17])), (a5, .inl (cI, 9, .inl ru))]) 0 0 := by
  refine kx_starti (by decide) rfl (Nat.le_of_ble_eq_true rfl) ?_
  intro p e s m below meth c A ls hx hb hr hml hts hown hlocks hin hP hK hN hD hA hS hl
  have hl : lv_has ls 1 [(0, .ref o)] := hl
  have hown : s.vm.findClass rr_M = some m.cls := hown
  have lk0 := hts _ (kx_m kw_820)
  have hin0 : ∀ w ∈ u_ws rr_M tt_M 37, w ∈ ww_M_above := fun w h => kx_m (kf_M w h)
  have lk2 := hts _ (kx_m kw_805)
  obtain ⟨H, hH⟩ : ∃ H, H = s.heap := ⟨_, rfl⟩
  obtain ⟨locs, hlocs⟩ : ∃ z : List Loc, z = [] := ⟨_, rfl⟩
  have hP : va_P D vwCl [(o, .inr (0, [.int (nI th), .int (nI cn), .ref a0, .ref a1, .ref a2, .ref a3, .ref a4, .ref a5, .int (nI mn), .ref a6, .ref a7, .int (nI ps), .int (nI bk), .ref a8, .ref a9, .ref a10, .ref a11, .ref a12, .ref a13, .ref a14, .ref a15, .int (nI kf), .int lb, .int (nI lc), .long lo, .int (nI el), .int (nI ec), .long eo, .int eb, .long ed, .int (nI mp), .int (nI ml), .long md, .long mo, .int mb, .ref a16, .ref a17])), (a5, .inl (cI, 9, .inl ru))] H := by rw [hH]; exact hP
  have hS : va_S A s.heap H locs := by rw [hH, hlocs]; exact hS
  refine kx_gen hH hlocs ?_
  clear hH hlocs
  refine kx_nameQ (fun Q hQ => ?_)
  refine lv_aload_n hx hb dd_M_above_0 rfl (lv_at hl 0 rfl) ?_
  refine va_get (D := D) (ci := 0) (v := .int lb) (C := rr_M) (T := tt_M) (N := 37) hx hb hts hin0 hown hK hP 0 kg_2_0 rfl 22 (by decide) lk0 (fun _ h9 => h9) rfl dd_M_above_1 ?_
  refine lv_aload_n hx hb dd_M_above_4 rfl (lv_at hl 0 rfl) ?_
  refine va_get (D := D) (ci := 0) (v := .ref a5) (C := rr_M) (T := tt_M) (N := 37) hx hb hts hin0 hown hK hP 0 kg_2_0 rfl 7 (by decide) lk2 (fun _ h9 => h9) rfl dd_M_above_5 ?_
  refine lv_iconst (v := nI 1) hx hb dd_M_above_8 (by decide) ?_
  refine kx_iald (q0 := 1) (t0 := 0) hx hb dd_M_above_9 hK hP kg_2_1 rfl (by omega) (by omega) ?_
  refine lv_icmp_le (tgt := 17) hx hb dd_M_above_10 (by decide) (fun c10 => ?_) (fun c10 => ?_)
  · skip
    refine lv_iconst (v := nI 0) hx hb dd_M_above_17 (by decide) ?_
    rw [hQ]
    exact kx_iret hx hb hr hlocks hK hN hS dd_M_above_18 () hP hD (by simp only [pm_ab, c10, if_true, if_false])
  · skip
    refine lv_iconst (v := nI 1) hx hb dd_M_above_13 (by decide) ?_
    refine lv_goto (tgt := 18) hx hb dd_M_above_14 (by decide) ?_
    rw [hQ]
    exact kx_iret hx hb hr hlocks hK hN hS dd_M_above_18 () hP hD (by simp only [pm_ab, c10, if_true, if_false])

theorem dd_M_beginSums_0 : decode bb_M_beginSums 0 = .ok (.iconst 0, 1) := by decide +kernel
theorem dd_M_beginSums_1 : decode bb_M_beginSums 1 = .ok (.istore_n 2, 1) := by decide +kernel
theorem dd_M_beginSums_2 : decode bb_M_beginSums 2 = .ok (.iload_n 2, 1) := by decide +kernel
theorem dd_M_beginSums_3 : decode bb_M_beginSums 3 = .ok (.bipush (6), 2) := by decide +kernel
theorem dd_M_beginSums_5 : decode bb_M_beginSums 5 = .ok (.if_icmp .ge (23), 3) := by decide +kernel
theorem dd_M_beginSums_8 : decode bb_M_beginSums 8 = .ok (.aload_n 0, 1) := by decide +kernel
theorem dd_M_beginSums_9 : decode bb_M_beginSums 9 = .ok (.getfield 59, 3) := by decide +kernel
theorem dd_M_beginSums_12 : decode bb_M_beginSums 12 = .ok (.iload_n 2, 1) := by decide +kernel
theorem dd_M_beginSums_13 : decode bb_M_beginSums 13 = .ok (.lconst 0, 1) := by decide +kernel
theorem dd_M_beginSums_14 : decode bb_M_beginSums 14 = .ok (.lastore, 1) := by decide +kernel
theorem dd_M_beginSums_15 : decode bb_M_beginSums 15 = .ok (.aload_n 0, 1) := by decide +kernel
theorem dd_M_beginSums_16 : decode bb_M_beginSums 16 = .ok (.getfield 62, 3) := by decide +kernel
theorem dd_M_beginSums_19 : decode bb_M_beginSums 19 = .ok (.iload_n 2, 1) := by decide +kernel
theorem dd_M_beginSums_20 : decode bb_M_beginSums 20 = .ok (.lconst 0, 1) := by decide +kernel
theorem dd_M_beginSums_21 : decode bb_M_beginSums 21 = .ok (.lastore, 1) := by decide +kernel
theorem dd_M_beginSums_22 : decode bb_M_beginSums 22 = .ok (.iinc 2 (1), 3) := by decide +kernel
theorem dd_M_beginSums_25 : decode bb_M_beginSums 25 = .ok (.goto (-23), 3) := by decide +kernel
theorem dd_M_beginSums_28 : decode bb_M_beginSums 28 = .ok (.aload_n 0, 1) := by decide +kernel
theorem dd_M_beginSums_29 : decode bb_M_beginSums 29 = .ok (.iload_n 1, 1) := by decide +kernel
theorem dd_M_beginSums_30 : decode bb_M_beginSums 30 = .ok (.putfield 109, 3) := by decide +kernel
theorem dd_M_beginSums_33 : decode bb_M_beginSums 33 = .ok (.return_, 1) := by decide +kernel

set_option maxHeartbeats 4000000 in
set_option maxRecDepth 100000 in
theorem ct_M_beginSums (l : Launch) (D : va_G) (cI cJ cZ : ClassId) (sz : Nat) (o : Nat) (th : Nat) (cn : Nat) (a0 : Nat) (a1 : Nat) (a2 : Nat) (a3 : Nat) (a4 : Nat) (a5 : Nat) (mn : Nat) (a6 : Nat) (a7 : Nat) (ps : Nat) (bk : Nat) (a8 : Nat) (a9 : Nat) (a10 : Nat) (a11 : Nat) (a12 : Nat) (a13 : Nat) (a14 : Nat) (a15 : Nat) (kf : Nat) (lb : Int32) (lc : Nat) (lo : Int64) (el : Nat) (ec : Nat) (eo : Int64) (eb : Int32) (ed : Int64) (mp : Nat) (ml : Nat) (md : Int64) (mo : Int64) (mb : Int32) (a16 : Nat) (a17 : Nat) (su : Nat → Int64) (ke : Nat → Int64) (b : Nat) : kx_Mv l yy_M_beginSums ww_M_beginSums ({ frames := 0, cells := 0, slots := 0, locals := 0 }) D vwCl (kx_ty cI cJ cZ) [.ref o, .int (nI b)] [(o, .inr (0, [.int (nI th), .int (nI cn), .ref a0, .ref a1, .ref a2, .ref a3, .ref a4, .ref a5, .int (nI mn), .ref a6, .ref a7, .int (nI ps), .int (nI bk), .ref a8, .ref a9, .ref a10, .ref a11, .ref a12, .ref a13, .ref a14, .ref a15, .int (nI kf), .int lb, .int (nI lc), .long lo, .int (nI el), .int (nI ec), .long eo, .int eb, .long ed, .int (nI mp), .int (nI ml), .long md, .long mo, .int mb, .ref a16, .ref a17])), (a14, .inl (cJ, 6, .inr (.inl su))), (a15, .inl (cJ, 6, .inr (.inl ke)))] sz (fun (u : (Nat → Int64) × (Nat → Int64)) => (∀ k, k < 6 → u.1 k = 0) ∧ (∀ k, k < 6 → u.2 k = 0)) (fun (u : (Nat → Int64) × (Nat → Int64)) => [(o, .inr (0, [.int (nI th), .int (nI cn), .ref a0, .ref a1, .ref a2, .ref a3, .ref a4, .ref a5, .int (nI mn), .ref a6, .ref a7, .int (nI ps), .int (nI bk), .ref a8, .ref a9, .ref a10, .ref a11, .ref a12, .ref a13, .ref a14, .ref a15, .int (nI b), .int lb, .int (nI lc), .long lo, .int (nI el), .int (nI ec), .long eo, .int eb, .long ed, .int (nI mp), .int (nI ml), .long md, .long mo, .int mb, .ref a16, .ref a17])), (a14, .inl (cJ, 6, .inr (.inl u.1))), (a15, .inl (cJ, 6, .inr (.inl u.2)))]) 0 0 := by
  refine kx_startv (by decide) rfl (Nat.le_of_ble_eq_true rfl) ?_
  intro p e s m below meth c A ls hx hb hr hml hts hown hlocks hin hP hK hN hD hA hS hl
  have hl : lv_has ls 3 [(0, .ref o), (1, .int (nI b))] := hl
  have hown : s.vm.findClass rr_M = some m.cls := hown
  have lk0 := hts _ (kx_m kw_817)
  have hin0 : ∀ w ∈ u_ws rr_M tt_M 37, w ∈ ww_M_beginSums := fun w h => kx_m (kf_M w h)
  have lk2 := hts _ (kx_m kw_818)
  have lk3 := hts _ (kx_m kw_819)
  obtain ⟨H, hH⟩ : ∃ H, H = s.heap := ⟨_, rfl⟩
  obtain ⟨locs, hlocs⟩ : ∃ z : List Loc, z = [] := ⟨_, rfl⟩
  have hP : va_P D vwCl [(o, .inr (0, [.int (nI th), .int (nI cn), .ref a0, .ref a1, .ref a2, .ref a3, .ref a4, .ref a5, .int (nI mn), .ref a6, .ref a7, .int (nI ps), .int (nI bk), .ref a8, .ref a9, .ref a10, .ref a11, .ref a12, .ref a13, .ref a14, .ref a15, .int (nI kf), .int lb, .int (nI lc), .long lo, .int (nI el), .int (nI ec), .long eo, .int eb, .long ed, .int (nI mp), .int (nI ml), .long md, .long mo, .int mb, .ref a16, .ref a17])), (a14, .inl (cJ, 6, .inr (.inl su))), (a15, .inl (cJ, 6, .inr (.inl ke)))] H := by rw [hH]; exact hP
  have hS : va_S A s.heap H locs := by rw [hH, hlocs]; exact hS
  refine kx_gen hH hlocs ?_
  clear hH hlocs
  refine kx_nameQ (fun Q hQ => ?_)
  refine lv_iconst (v := nI 0) hx hb dd_M_beginSums_0 (by decide) ?_
  refine lv_istore_n (lv' := [(2, .int (nI 0)), (0, .ref o), (1, .int (nI b))]) hx hb dd_M_beginSums_1 rfl hl (by decide) rfl (fun ls hl => ?_)
  refine lv_iload_n hx hb dd_M_beginSums_2 rfl (lv_at hl 0 rfl) ?_
  refine lv_bipush (v := nI 6) hx hb dd_M_beginSums_3 (by decide) ?_
  refine lv_icmp_ge (tgt := 28) hx hb dd_M_beginSums_5 (by decide) (fun h => absurd h (by decide +kernel)) (fun _ => ?_)
  refine lv_aload_n hx hb dd_M_beginSums_8 rfl (lv_at hl 1 rfl) ?_
  refine va_get (D := D) (ci := 0) (v := .ref a14) (C := rr_M) (T := tt_M) (N := 37) hx hb hts hin0 hown hK hP 0 kg_3_0 rfl 19 (by decide) lk0 (fun _ h9 => h9) rfl dd_M_beginSums_9 ?_
  refine lv_iload_n hx hb dd_M_beginSums_12 rfl (lv_at hl 0 rfl) ?_
  refine lv_lconst (v := 0) hx hb dd_M_beginSums_13 (by decide) ?_
  refine kx_last (q0 := 1) (t0 := 1) hx hb dd_M_beginSums_14 hK hP hD hS kg_3_1 rfl (by omega) (by omega) (fun H locs hP hD hS => ?_)
  have hP : va_P D vwCl [(o, .inr (0, [.int (nI th), .int (nI cn), .ref a0, .ref a1, .ref a2, .ref a3, .ref a4, .ref a5, .int (nI mn), .ref a6, .ref a7, .int (nI ps), .int (nI bk), .ref a8, .ref a9, .ref a10, .ref a11, .ref a12, .ref a13, .ref a14, .ref a15, .int (nI kf), .int lb, .int (nI lc), .long lo, .int (nI el), .int (nI ec), .long eo, .int eb, .long ed, .int (nI mp), .int (nI ml), .long md, .long mo, .int mb, .ref a16, .ref a17])), (a14, .inl (cJ, 6, .inr (.inl (vp_updL su 0 (0 : Int64))))), (a15, .inl (cJ, 6, .inr (.inl ke)))] H := kx_cP kz_3_1 hP
  have hD : va_D A [(o, .inr (0, [.int (nI th), .int (nI cn), .ref a0, .ref a1, .ref a2, .ref a3, .ref a4, .ref a5, .int (nI mn), .ref a6, .ref a7, .int (nI ps), .int (nI bk), .ref a8, .ref a9, .ref a10, .ref a11, .ref a12, .ref a13, .ref a14, .ref a15, .int (nI kf), .int lb, .int (nI lc), .long lo, .int (nI el), .int (nI ec), .long eo, .int eb, .long ed, .int (nI mp), .int (nI ml), .long md, .long mo, .int mb, .ref a16, .ref a17])), (a14, .inl (cJ, 6, .inr (.inl (vp_updL su 0 (0 : Int64))))), (a15, .inl (cJ, 6, .inr (.inl ke)))] := kx_cD kz_3_1 hD
  refine lv_aload_n hx hb dd_M_beginSums_15 rfl (lv_at hl 1 rfl) ?_
  refine va_get (D := D) (ci := 0) (v := .ref a15) (C := rr_M) (T := tt_M) (N := 37) hx hb hts hin0 hown hK hP 0 kg_3_0 rfl 20 (by decide) lk2 (fun _ h9 => h9) rfl dd_M_beginSums_16 ?_
  refine lv_iload_n hx hb dd_M_beginSums_19 rfl (lv_at hl 0 rfl) ?_
  refine lv_lconst (v := 0) hx hb dd_M_beginSums_20 (by decide) ?_
  refine kx_last (q0 := 2) (t0 := 1) hx hb dd_M_beginSums_21 hK hP hD hS kg_3_2 rfl (by omega) (by omega) (fun H locs hP hD hS => ?_)
  have hP : va_P D vwCl [(o, .inr (0, [.int (nI th), .int (nI cn), .ref a0, .ref a1, .ref a2, .ref a3, .ref a4, .ref a5, .int (nI mn), .ref a6, .ref a7, .int (nI ps), .int (nI bk), .ref a8, .ref a9, .ref a10, .ref a11, .ref a12, .ref a13, .ref a14, .ref a15, .int (nI kf), .int lb, .int (nI lc), .long lo, .int (nI el), .int (nI ec), .long eo, .int eb, .long ed, .int (nI mp), .int (nI ml), .long md, .long mo, .int mb, .ref a16, .ref a17])), (a14, .inl (cJ, 6, .inr (.inl (vp_updL su 0 (0 : Int64))))), (a15, .inl (cJ, 6, .inr (.inl (vp_updL ke 0 (0 : Int64)))))] H := kx_cP kz_3_2 hP
  have hD : va_D A [(o, .inr (0, [.int (nI th), .int (nI cn), .ref a0, .ref a1, .ref a2, .ref a3, .ref a4, .ref a5, .int (nI mn), .ref a6, .ref a7, .int (nI ps), .int (nI bk), .ref a8, .ref a9, .ref a10, .ref a11, .ref a12, .ref a13, .ref a14, .ref a15, .int (nI kf), .int lb, .int (nI lc), .long lo, .int (nI el), .int (nI ec), .long eo, .int eb, .long ed, .int (nI mp), .int (nI ml), .long md, .long mo, .int mb, .ref a16, .ref a17])), (a14, .inl (cJ, 6, .inr (.inl (vp_updL su 0 (0 : Int64))))), (a15, .inl (cJ, 6, .inr (.inl (vp_updL ke 0 (0 : Int64)))))] := kx_cD kz_3_2 hD
  refine lv_iinc (v := nI 1) (lv' := [(2, .int (nI 1)), (0, .ref o), (1, .int (nI b))]) hx hb dd_M_beginSums_22 hl (k := 0) rfl (nI_add 0 1) (by decide) rfl (fun ls hl => ?_)
  refine lv_goto (tgt := 2) hx hb dd_M_beginSums_25 (by decide) ?_
  refine lv_iload_n hx hb dd_M_beginSums_2 rfl (lv_at hl 0 rfl) ?_
  refine lv_bipush (v := nI 6) hx hb dd_M_beginSums_3 (by decide) ?_
  refine lv_icmp_ge (tgt := 28) hx hb dd_M_beginSums_5 (by decide) (fun h => absurd h (by decide +kernel)) (fun _ => ?_)
  refine lv_aload_n hx hb dd_M_beginSums_8 rfl (lv_at hl 1 rfl) ?_
  refine va_get (D := D) (ci := 0) (v := .ref a14) (C := rr_M) (T := tt_M) (N := 37) hx hb hts hin0 hown hK hP 0 kg_3_0 rfl 19 (by decide) lk0 (fun _ h9 => h9) rfl dd_M_beginSums_9 ?_
  refine lv_iload_n hx hb dd_M_beginSums_12 rfl (lv_at hl 0 rfl) ?_
  refine lv_lconst (v := 0) hx hb dd_M_beginSums_13 (by decide) ?_
  refine kx_last (q0 := 1) (t0 := 1) hx hb dd_M_beginSums_14 hK hP hD hS kg_3_1 rfl (by omega) (by omega) (fun H locs hP hD hS => ?_)
  have hP : va_P D vwCl [(o, .inr (0, [.int (nI th), .int (nI cn), .ref a0, .ref a1, .ref a2, .ref a3, .ref a4, .ref a5, .int (nI mn), .ref a6, .ref a7, .int (nI ps), .int (nI bk), .ref a8, .ref a9, .ref a10, .ref a11, .ref a12, .ref a13, .ref a14, .ref a15, .int (nI kf), .int lb, .int (nI lc), .long lo, .int (nI el), .int (nI ec), .long eo, .int eb, .long ed, .int (nI mp), .int (nI ml), .long md, .long mo, .int mb, .ref a16, .ref a17])), (a14, .inl (cJ, 6, .inr (.inl (vp_updL (vp_updL su 0 (0 : Int64)) 1 (0 : Int64))))), (a15, .inl (cJ, 6, .inr (.inl (vp_updL ke 0 (0 : Int64)))))] H := kx_cP kz_3_1 hP
  have hD : va_D A [(o, .inr (0, [.int (nI th), .int (nI cn), .ref a0, .ref a1, .ref a2, .ref a3, .ref a4, .ref a5, .int (nI mn), .ref a6, .ref a7, .int (nI ps), .int (nI bk), .ref a8, .ref a9, .ref a10, .ref a11, .ref a12, .ref a13, .ref a14, .ref a15, .int (nI kf), .int lb, .int (nI lc), .long lo, .int (nI el), .int (nI ec), .long eo, .int eb, .long ed, .int (nI mp), .int (nI ml), .long md, .long mo, .int mb, .ref a16, .ref a17])), (a14, .inl (cJ, 6, .inr (.inl (vp_updL (vp_updL su 0 (0 : Int64)) 1 (0 : Int64))))), (a15, .inl (cJ, 6, .inr (.inl (vp_updL ke 0 (0 : Int64)))))] := kx_cD kz_3_1 hD
  refine lv_aload_n hx hb dd_M_beginSums_15 rfl (lv_at hl 1 rfl) ?_
  refine va_get (D := D) (ci := 0) (v := .ref a15) (C := rr_M) (T := tt_M) (N := 37) hx hb hts hin0 hown hK hP 0 kg_3_0 rfl 20 (by decide) lk2 (fun _ h9 => h9) rfl dd_M_beginSums_16 ?_
  refine lv_iload_n hx hb dd_M_beginSums_19 rfl (lv_at hl 0 rfl) ?_
  refine lv_lconst (v := 0) hx hb dd_M_beginSums_20 (by decide) ?_
  refine kx_last (q0 := 2) (t0 := 1) hx hb dd_M_beginSums_21 hK hP hD hS kg_3_2 rfl (by omega) (by omega) (fun H locs hP hD hS => ?_)
  have hP : va_P D vwCl [(o, .inr (0, [.int (nI th), .int (nI cn), .ref a0, .ref a1, .ref a2, .ref a3, .ref a4, .ref a5, .int (nI mn), .ref a6, .ref a7, .int (nI ps), .int (nI bk), .ref a8, .ref a9, .ref a10, .ref a11, .ref a12, .ref a13, .ref a14, .ref a15, .int (nI kf), .int lb, .int (nI lc), .long lo, .int (nI el), .int (nI ec), .long eo, .int eb, .long ed, .int (nI mp), .int (nI ml), .long md, .long mo, .int mb, .ref a16, .ref a17])), (a14, .inl (cJ, 6, .inr (.inl (vp_updL (vp_updL su 0 (0 : Int64)) 1 (0 : Int64))))), (a15, .inl (cJ, 6, .inr (.inl (vp_updL (vp_updL ke 0 (0 : Int64)) 1 (0 : Int64)))))] H := kx_cP kz_3_2 hP
  have hD : va_D A [(o, .inr (0, [.int (nI th), .int (nI cn), .ref a0, .ref a1, .ref a2, .ref a3, .ref a4, .ref a5, .int (nI mn), .ref a6, .ref a7, .int (nI ps), .int (nI bk), .ref a8, .ref a9, .ref a10, .ref a11, .ref a12, .ref a13, .ref a14, .ref a15, .int (nI kf), .int lb, .int (nI lc), .long lo, .int (nI el), .int (nI ec), .long eo, .int eb, .long ed, .int (nI mp), .int (nI ml), .long md, .long mo, .int mb, .ref a16, .ref a17])), (a14, .inl (cJ, 6, .inr (.inl (vp_updL (vp_updL su 0 (0 : Int64)) 1 (0 : Int64))))), (a15, .inl (cJ, 6, .inr (.inl (vp_updL (vp_updL ke 0 (0 : Int64)) 1 (0 : Int64)))))] := kx_cD kz_3_2 hD
  refine lv_iinc (v := nI 2) (lv' := [(2, .int (nI 2)), (0, .ref o), (1, .int (nI b))]) hx hb dd_M_beginSums_22 hl (k := 0) rfl (nI_add 1 1) (by decide) rfl (fun ls hl => ?_)
  refine lv_goto (tgt := 2) hx hb dd_M_beginSums_25 (by decide) ?_
  refine lv_iload_n hx hb dd_M_beginSums_2 rfl (lv_at hl 0 rfl) ?_
  refine lv_bipush (v := nI 6) hx hb dd_M_beginSums_3 (by decide) ?_
  refine lv_icmp_ge (tgt := 28) hx hb dd_M_beginSums_5 (by decide) (fun h => absurd h (by decide +kernel)) (fun _ => ?_)
  refine lv_aload_n hx hb dd_M_beginSums_8 rfl (lv_at hl 1 rfl) ?_
  refine va_get (D := D) (ci := 0) (v := .ref a14) (C := rr_M) (T := tt_M) (N := 37) hx hb hts hin0 hown hK hP 0 kg_3_0 rfl 19 (by decide) lk0 (fun _ h9 => h9) rfl dd_M_beginSums_9 ?_
  refine lv_iload_n hx hb dd_M_beginSums_12 rfl (lv_at hl 0 rfl) ?_
  refine lv_lconst (v := 0) hx hb dd_M_beginSums_13 (by decide) ?_
  refine kx_last (q0 := 1) (t0 := 1) hx hb dd_M_beginSums_14 hK hP hD hS kg_3_1 rfl (by omega) (by omega) (fun H locs hP hD hS => ?_)
  have hP : va_P D vwCl [(o, .inr (0, [.int (nI th), .int (nI cn), .ref a0, .ref a1, .ref a2, .ref a3, .ref a4, .ref a5, .int (nI mn), .ref a6, .ref a7, .int (nI ps), .int (nI bk), .ref a8, .ref a9, .ref a10, .ref a11, .ref a12, .ref a13, .ref a14, .ref a15, .int (nI kf), .int lb, .int (nI lc), .long lo, .int (nI el), .int (nI ec), .long eo, .int eb, .long ed, .int (nI mp), .int (nI ml), .long md, .long mo, .int mb, .ref a16, .ref a17])), (a14, .inl (cJ, 6, .inr (.inl (vp_updL (vp_updL (vp_updL su 0 (0 : Int64)) 1 (0 : Int64)) 2 (0 : Int64))))), (a15, .inl (cJ, 6, .inr (.inl (vp_updL (vp_updL ke 0 (0 : Int64)) 1 (0 : Int64)))))] H := kx_cP kz_3_1 hP
  have hD : va_D A [(o, .inr (0, [.int (nI th), .int (nI cn), .ref a0, .ref a1, .ref a2, .ref a3, .ref a4, .ref a5, .int (nI mn), .ref a6, .ref a7, .int (nI ps), .int (nI bk), .ref a8, .ref a9, .ref a10, .ref a11, .ref a12, .ref a13, .ref a14, .ref a15, .int (nI kf), .int lb, .int (nI lc), .long lo, .int (nI el), .int (nI ec), .long eo, .int eb, .long ed, .int (nI mp), .int (nI ml), .long md, .long mo, .int mb, .ref a16, .ref a17])), (a14, .inl (cJ, 6, .inr (.inl (vp_updL (vp_updL (vp_updL su 0 (0 : Int64)) 1 (0 : Int64)) 2 (0 : Int64))))), (a15, .inl (cJ, 6, .inr (.inl (vp_updL (vp_updL ke 0 (0 : Int64)) 1 (0 : Int64)))))] := kx_cD kz_3_1 hD
  refine lv_aload_n hx hb dd_M_beginSums_15 rfl (lv_at hl 1 rfl) ?_
  refine va_get (D := D) (ci := 0) (v := .ref a15) (C := rr_M) (T := tt_M) (N := 37) hx hb hts hin0 hown hK hP 0 kg_3_0 rfl 20 (by decide) lk2 (fun _ h9 => h9) rfl dd_M_beginSums_16 ?_
  refine lv_iload_n hx hb dd_M_beginSums_19 rfl (lv_at hl 0 rfl) ?_
  refine lv_lconst (v := 0) hx hb dd_M_beginSums_20 (by decide) ?_
  refine kx_last (q0 := 2) (t0 := 1) hx hb dd_M_beginSums_21 hK hP hD hS kg_3_2 rfl (by omega) (by omega) (fun H locs hP hD hS => ?_)
  have hP : va_P D vwCl [(o, .inr (0, [.int (nI th), .int (nI cn), .ref a0, .ref a1, .ref a2, .ref a3, .ref a4, .ref a5, .int (nI mn), .ref a6, .ref a7, .int (nI ps), .int (nI bk), .ref a8, .ref a9, .ref a10, .ref a11, .ref a12, .ref a13, .ref a14, .ref a15, .int (nI kf), .int lb, .int (nI lc), .long lo, .int (nI el), .int (nI ec), .long eo, .int eb, .long ed, .int (nI mp), .int (nI ml), .long md, .long mo, .int mb, .ref a16, .ref a17])), (a14, .inl (cJ, 6, .inr (.inl (vp_updL (vp_updL (vp_updL su 0 (0 : Int64)) 1 (0 : Int64)) 2 (0 : Int64))))), (a15, .inl (cJ, 6, .inr (.inl (vp_updL (vp_updL (vp_updL ke 0 (0 : Int64)) 1 (0 : Int64)) 2 (0 : Int64)))))] H := kx_cP kz_3_2 hP
  have hD : va_D A [(o, .inr (0, [.int (nI th), .int (nI cn), .ref a0, .ref a1, .ref a2, .ref a3, .ref a4, .ref a5, .int (nI mn), .ref a6, .ref a7, .int (nI ps), .int (nI bk), .ref a8, .ref a9, .ref a10, .ref a11, .ref a12, .ref a13, .ref a14, .ref a15, .int (nI kf), .int lb, .int (nI lc), .long lo, .int (nI el), .int (nI ec), .long eo, .int eb, .long ed, .int (nI mp), .int (nI ml), .long md, .long mo, .int mb, .ref a16, .ref a17])), (a14, .inl (cJ, 6, .inr (.inl (vp_updL (vp_updL (vp_updL su 0 (0 : Int64)) 1 (0 : Int64)) 2 (0 : Int64))))), (a15, .inl (cJ, 6, .inr (.inl (vp_updL (vp_updL (vp_updL ke 0 (0 : Int64)) 1 (0 : Int64)) 2 (0 : Int64)))))] := kx_cD kz_3_2 hD
  refine lv_iinc (v := nI 3) (lv' := [(2, .int (nI 3)), (0, .ref o), (1, .int (nI b))]) hx hb dd_M_beginSums_22 hl (k := 0) rfl (nI_add 2 1) (by decide) rfl (fun ls hl => ?_)
  refine lv_goto (tgt := 2) hx hb dd_M_beginSums_25 (by decide) ?_
  refine lv_iload_n hx hb dd_M_beginSums_2 rfl (lv_at hl 0 rfl) ?_
  refine lv_bipush (v := nI 6) hx hb dd_M_beginSums_3 (by decide) ?_
  refine lv_icmp_ge (tgt := 28) hx hb dd_M_beginSums_5 (by decide) (fun h => absurd h (by decide +kernel)) (fun _ => ?_)
  refine lv_aload_n hx hb dd_M_beginSums_8 rfl (lv_at hl 1 rfl) ?_
  refine va_get (D := D) (ci := 0) (v := .ref a14) (C := rr_M) (T := tt_M) (N := 37) hx hb hts hin0 hown hK hP 0 kg_3_0 rfl 19 (by decide) lk0 (fun _ h9 => h9) rfl dd_M_beginSums_9 ?_
  refine lv_iload_n hx hb dd_M_beginSums_12 rfl (lv_at hl 0 rfl) ?_
  refine lv_lconst (v := 0) hx hb dd_M_beginSums_13 (by decide) ?_
  refine kx_last (q0 := 1) (t0 := 1) hx hb dd_M_beginSums_14 hK hP hD hS kg_3_1 rfl (by omega) (by omega) (fun H locs hP hD hS => ?_)
  have hP : va_P D vwCl [(o, .inr (0, [.int (nI th), .int (nI cn), .ref a0, .ref a1, .ref a2, .ref a3, .ref a4, .ref a5, .int (nI mn), .ref a6, .ref a7, .int (nI ps), .int (nI bk), .ref a8, .ref a9, .ref a10, .ref a11, .ref a12, .ref a13, .ref a14, .ref a15, .int (nI kf), .int lb, .int (nI lc), .long lo, .int (nI el), .int (nI ec), .long eo, .int eb, .long ed, .int (nI mp), .int (nI ml), .long md, .long mo, .int mb, .ref a16, .ref a17])), (a14, .inl (cJ, 6, .inr (.inl (vp_updL (vp_updL (vp_updL (vp_updL su 0 (0 : Int64)) 1 (0 : Int64)) 2 (0 : Int64)) 3 (0 : Int64))))), (a15, .inl (cJ, 6, .inr (.inl (vp_updL (vp_updL (vp_updL ke 0 (0 : Int64)) 1 (0 : Int64)) 2 (0 : Int64)))))] H := kx_cP kz_3_1 hP
  have hD : va_D A [(o, .inr (0, [.int (nI th), .int (nI cn), .ref a0, .ref a1, .ref a2, .ref a3, .ref a4, .ref a5, .int (nI mn), .ref a6, .ref a7, .int (nI ps), .int (nI bk), .ref a8, .ref a9, .ref a10, .ref a11, .ref a12, .ref a13, .ref a14, .ref a15, .int (nI kf), .int lb, .int (nI lc), .long lo, .int (nI el), .int (nI ec), .long eo, .int eb, .long ed, .int (nI mp), .int (nI ml), .long md, .long mo, .int mb, .ref a16, .ref a17])), (a14, .inl (cJ, 6, .inr (.inl (vp_updL (vp_updL (vp_updL (vp_updL su 0 (0 : Int64)) 1 (0 : Int64)) 2 (0 : Int64)) 3 (0 : Int64))))), (a15, .inl (cJ, 6, .inr (.inl (vp_updL (vp_updL (vp_updL ke 0 (0 : Int64)) 1 (0 : Int64)) 2 (0 : Int64)))))] := kx_cD kz_3_1 hD
  refine lv_aload_n hx hb dd_M_beginSums_15 rfl (lv_at hl 1 rfl) ?_
  refine va_get (D := D) (ci := 0) (v := .ref a15) (C := rr_M) (T := tt_M) (N := 37) hx hb hts hin0 hown hK hP 0 kg_3_0 rfl 20 (by decide) lk2 (fun _ h9 => h9) rfl dd_M_beginSums_16 ?_
  refine lv_iload_n hx hb dd_M_beginSums_19 rfl (lv_at hl 0 rfl) ?_
  refine lv_lconst (v := 0) hx hb dd_M_beginSums_20 (by decide) ?_
  refine kx_last (q0 := 2) (t0 := 1) hx hb dd_M_beginSums_21 hK hP hD hS kg_3_2 rfl (by omega) (by omega) (fun H locs hP hD hS => ?_)
  have hP : va_P D vwCl [(o, .inr (0, [.int (nI th), .int (nI cn), .ref a0, .ref a1, .ref a2, .ref a3, .ref a4, .ref a5, .int (nI mn), .ref a6, .ref a7, .int (nI ps), .int (nI bk), .ref a8, .ref a9, .ref a10, .ref a11, .ref a12, .ref a13, .ref a14, .ref a15, .int (nI kf), .int lb, .int (nI lc), .long lo, .int (nI el), .int (nI ec), .long eo, .int eb, .long ed, .int (nI mp), .int (nI ml), .long md, .long mo, .int mb, .ref a16, .ref a17])), (a14, .inl (cJ, 6, .inr (.inl (vp_updL (vp_updL (vp_updL (vp_updL su 0 (0 : Int64)) 1 (0 : Int64)) 2 (0 : Int64)) 3 (0 : Int64))))), (a15, .inl (cJ, 6, .inr (.inl (vp_updL (vp_updL (vp_updL (vp_updL ke 0 (0 : Int64)) 1 (0 : Int64)) 2 (0 : Int64)) 3 (0 : Int64)))))] H := kx_cP kz_3_2 hP
  have hD : va_D A [(o, .inr (0, [.int (nI th), .int (nI cn), .ref a0, .ref a1, .ref a2, .ref a3, .ref a4, .ref a5, .int (nI mn), .ref a6, .ref a7, .int (nI ps), .int (nI bk), .ref a8, .ref a9, .ref a10, .ref a11, .ref a12, .ref a13, .ref a14, .ref a15, .int (nI kf), .int lb, .int (nI lc), .long lo, .int (nI el), .int (nI ec), .long eo, .int eb, .long ed, .int (nI mp), .int (nI ml), .long md, .long mo, .int mb, .ref a16, .ref a17])), (a14, .inl (cJ, 6, .inr (.inl (vp_updL (vp_updL (vp_updL (vp_updL su 0 (0 : Int64)) 1 (0 : Int64)) 2 (0 : Int64)) 3 (0 : Int64))))), (a15, .inl (cJ, 6, .inr (.inl (vp_updL (vp_updL (vp_updL (vp_updL ke 0 (0 : Int64)) 1 (0 : Int64)) 2 (0 : Int64)) 3 (0 : Int64)))))] := kx_cD kz_3_2 hD
  refine lv_iinc (v := nI 4) (lv' := [(2, .int (nI 4)), (0, .ref o), (1, .int (nI b))]) hx hb dd_M_beginSums_22 hl (k := 0) rfl (nI_add 3 1) (by decide) rfl (fun ls hl => ?_)
  refine lv_goto (tgt := 2) hx hb dd_M_beginSums_25 (by decide) ?_
  refine lv_iload_n hx hb dd_M_beginSums_2 rfl (lv_at hl 0 rfl) ?_
  refine lv_bipush (v := nI 6) hx hb dd_M_beginSums_3 (by decide) ?_
  refine lv_icmp_ge (tgt := 28) hx hb dd_M_beginSums_5 (by decide) (fun h => absurd h (by decide +kernel)) (fun _ => ?_)
  refine lv_aload_n hx hb dd_M_beginSums_8 rfl (lv_at hl 1 rfl) ?_
  refine va_get (D := D) (ci := 0) (v := .ref a14) (C := rr_M) (T := tt_M) (N := 37) hx hb hts hin0 hown hK hP 0 kg_3_0 rfl 19 (by decide) lk0 (fun _ h9 => h9) rfl dd_M_beginSums_9 ?_
  refine lv_iload_n hx hb dd_M_beginSums_12 rfl (lv_at hl 0 rfl) ?_
  refine lv_lconst (v := 0) hx hb dd_M_beginSums_13 (by decide) ?_
  refine kx_last (q0 := 1) (t0 := 1) hx hb dd_M_beginSums_14 hK hP hD hS kg_3_1 rfl (by omega) (by omega) (fun H locs hP hD hS => ?_)
  have hP : va_P D vwCl [(o, .inr (0, [.int (nI th), .int (nI cn), .ref a0, .ref a1, .ref a2, .ref a3, .ref a4, .ref a5, .int (nI mn), .ref a6, .ref a7, .int (nI ps), .int (nI bk), .ref a8, .ref a9, .ref a10, .ref a11, .ref a12, .ref a13, .ref a14, .ref a15, .int (nI kf), .int lb, .int (nI lc), .long lo, .int (nI el), .int (nI ec), .long eo, .int eb, .long ed, .int (nI mp), .int (nI ml), .long md, .long mo, .int mb, .ref a16, .ref a17])), (a14, .inl (cJ, 6, .inr (.inl (vp_updL (vp_updL (vp_updL (vp_updL (vp_updL su 0 (0 : Int64)) 1 (0 : Int64)) 2 (0 : Int64)) 3 (0 : Int64)) 4 (0 : Int64))))), (a15, .inl (cJ, 6, .inr (.inl (vp_updL (vp_updL (vp_updL (vp_updL ke 0 (0 : Int64)) 1 (0 : Int64)) 2 (0 : Int64)) 3 (0 : Int64)))))] H := kx_cP kz_3_1 hP
  have hD : va_D A [(o, .inr (0, [.int (nI th), .int (nI cn), .ref a0, .ref a1, .ref a2, .ref a3, .ref a4, .ref a5, .int (nI mn), .ref a6, .ref a7, .int (nI ps), .int (nI bk), .ref a8, .ref a9, .ref a10, .ref a11, .ref a12, .ref a13, .ref a14, .ref a15, .int (nI kf), .int lb, .int (nI lc), .long lo, .int (nI el), .int (nI ec), .long eo, .int eb, .long ed, .int (nI mp), .int (nI ml), .long md, .long mo, .int mb, .ref a16, .ref a17])), (a14, .inl (cJ, 6, .inr (.inl (vp_updL (vp_updL (vp_updL (vp_updL (vp_updL su 0 (0 : Int64)) 1 (0 : Int64)) 2 (0 : Int64)) 3 (0 : Int64)) 4 (0 : Int64))))), (a15, .inl (cJ, 6, .inr (.inl (vp_updL (vp_updL (vp_updL (vp_updL ke 0 (0 : Int64)) 1 (0 : Int64)) 2 (0 : Int64)) 3 (0 : Int64)))))] := kx_cD kz_3_1 hD
  refine lv_aload_n hx hb dd_M_beginSums_15 rfl (lv_at hl 1 rfl) ?_
  refine va_get (D := D) (ci := 0) (v := .ref a15) (C := rr_M) (T := tt_M) (N := 37) hx hb hts hin0 hown hK hP 0 kg_3_0 rfl 20 (by decide) lk2 (fun _ h9 => h9) rfl dd_M_beginSums_16 ?_
  refine lv_iload_n hx hb dd_M_beginSums_19 rfl (lv_at hl 0 rfl) ?_
  refine lv_lconst (v := 0) hx hb dd_M_beginSums_20 (by decide) ?_
  refine kx_last (q0 := 2) (t0 := 1) hx hb dd_M_beginSums_21 hK hP hD hS kg_3_2 rfl (by omega) (by omega) (fun H locs hP hD hS => ?_)
  have hP : va_P D vwCl [(o, .inr (0, [.int (nI th), .int (nI cn), .ref a0, .ref a1, .ref a2, .ref a3, .ref a4, .ref a5, .int (nI mn), .ref a6, .ref a7, .int (nI ps), .int (nI bk), .ref a8, .ref a9, .ref a10, .ref a11, .ref a12, .ref a13, .ref a14, .ref a15, .int (nI kf), .int lb, .int (nI lc), .long lo, .int (nI el), .int (nI ec), .long eo, .int eb, .long ed, .int (nI mp), .int (nI ml), .long md, .long mo, .int mb, .ref a16, .ref a17])), (a14, .inl (cJ, 6, .inr (.inl (vp_updL (vp_updL (vp_updL (vp_updL (vp_updL su 0 (0 : Int64)) 1 (0 : Int64)) 2 (0 : Int64)) 3 (0 : Int64)) 4 (0 : Int64))))), (a15, .inl (cJ, 6, .inr (.inl (vp_updL (vp_updL (vp_updL (vp_updL (vp_updL ke 0 (0 : Int64)) 1 (0 : Int64)) 2 (0 : Int64)) 3 (0 : Int64)) 4 (0 : Int64)))))] H := kx_cP kz_3_2 hP
  have hD : va_D A [(o, .inr (0, [.int (nI th), .int (nI cn), .ref a0, .ref a1, .ref a2, .ref a3, .ref a4, .ref a5, .int (nI mn), .ref a6, .ref a7, .int (nI ps), .int (nI bk), .ref a8, .ref a9, .ref a10, .ref a11, .ref a12, .ref a13, .ref a14, .ref a15, .int (nI kf), .int lb, .int (nI lc), .long lo, .int (nI el), .int (nI ec), .long eo, .int eb, .long ed, .int (nI mp), .int (nI ml), .long md, .long mo, .int mb, .ref a16, .ref a17])), (a14, .inl (cJ, 6, .inr (.inl (vp_updL (vp_updL (vp_updL (vp_updL (vp_updL su 0 (0 : Int64)) 1 (0 : Int64)) 2 (0 : Int64)) 3 (0 : Int64)) 4 (0 : Int64))))), (a15, .inl (cJ, 6, .inr (.inl (vp_updL (vp_updL (vp_updL (vp_updL (vp_updL ke 0 (0 : Int64)) 1 (0 : Int64)) 2 (0 : Int64)) 3 (0 : Int64)) 4 (0 : Int64)))))] := kx_cD kz_3_2 hD
  refine lv_iinc (v := nI 5) (lv' := [(2, .int (nI 5)), (0, .ref o), (1, .int (nI b))]) hx hb dd_M_beginSums_22 hl (k := 0) rfl (nI_add 4 1) (by decide) rfl (fun ls hl => ?_)
  refine lv_goto (tgt := 2) hx hb dd_M_beginSums_25 (by decide) ?_
  refine lv_iload_n hx hb dd_M_beginSums_2 rfl (lv_at hl 0 rfl) ?_
  refine lv_bipush (v := nI 6) hx hb dd_M_beginSums_3 (by decide) ?_
  refine lv_icmp_ge (tgt := 28) hx hb dd_M_beginSums_5 (by decide) (fun h => absurd h (by decide +kernel)) (fun _ => ?_)
  refine lv_aload_n hx hb dd_M_beginSums_8 rfl (lv_at hl 1 rfl) ?_
  refine va_get (D := D) (ci := 0) (v := .ref a14) (C := rr_M) (T := tt_M) (N := 37) hx hb hts hin0 hown hK hP 0 kg_3_0 rfl 19 (by decide) lk0 (fun _ h9 => h9) rfl dd_M_beginSums_9 ?_
  refine lv_iload_n hx hb dd_M_beginSums_12 rfl (lv_at hl 0 rfl) ?_
  refine lv_lconst (v := 0) hx hb dd_M_beginSums_13 (by decide) ?_
  refine kx_last (q0 := 1) (t0 := 1) hx hb dd_M_beginSums_14 hK hP hD hS kg_3_1 rfl (by omega) (by omega) (fun H locs hP hD hS => ?_)
  have hP : va_P D vwCl [(o, .inr (0, [.int (nI th), .int (nI cn), .ref a0, .ref a1, .ref a2, .ref a3, .ref a4, .ref a5, .int (nI mn), .ref a6, .ref a7, .int (nI ps), .int (nI bk), .ref a8, .ref a9, .ref a10, .ref a11, .ref a12, .ref a13, .ref a14, .ref a15, .int (nI kf), .int lb, .int (nI lc), .long lo, .int (nI el), .int (nI ec), .long eo, .int eb, .long ed, .int (nI mp), .int (nI ml), .long md, .long mo, .int mb, .ref a16, .ref a17])), (a14, .inl (cJ, 6, .inr (.inl (vp_updL (vp_updL (vp_updL (vp_updL (vp_updL (vp_updL su 0 (0 : Int64)) 1 (0 : Int64)) 2 (0 : Int64)) 3 (0 : Int64)) 4 (0 : Int64)) 5 (0 : Int64))))), (a15, .inl (cJ, 6, .inr (.inl (vp_updL (vp_updL (vp_updL (vp_updL (vp_updL ke 0 (0 : Int64)) 1 (0 : Int64)) 2 (0 : Int64)) 3 (0 : Int64)) 4 (0 : Int64)))))] H := kx_cP kz_3_1 hP
  have hD : va_D A [(o, .inr (0, [.int (nI th), .int (nI cn), .ref a0, .ref a1, .ref a2, .ref a3, .ref a4, .ref a5, .int (nI mn), .ref a6, .ref a7, .int (nI ps), .int (nI bk), .ref a8, .ref a9, .ref a10, .ref a11, .ref a12, .ref a13, .ref a14, .ref a15, .int (nI kf), .int lb, .int (nI lc), .long lo, .int (nI el), .int (nI ec), .long eo, .int eb, .long ed, .int (nI mp), .int (nI ml), .long md, .long mo, .int mb, .ref a16, .ref a17])), (a14, .inl (cJ, 6, .inr (.inl (vp_updL (vp_updL (vp_updL (vp_updL (vp_updL (vp_updL su 0 (0 : Int64)) 1 (0 : Int64)) 2 (0 : Int64)) 3 (0 : Int64)) 4 (0 : Int64)) 5 (0 : Int64))))), (a15, .inl (cJ, 6, .inr (.inl (vp_updL (vp_updL (vp_updL (vp_updL (vp_updL ke 0 (0 : Int64)) 1 (0 : Int64)) 2 (0 : Int64)) 3 (0 : Int64)) 4 (0 : Int64)))))] := kx_cD kz_3_1 hD
  refine lv_aload_n hx hb dd_M_beginSums_15 rfl (lv_at hl 1 rfl) ?_
  refine va_get (D := D) (ci := 0) (v := .ref a15) (C := rr_M) (T := tt_M) (N := 37) hx hb hts hin0 hown hK hP 0 kg_3_0 rfl 20 (by decide) lk2 (fun _ h9 => h9) rfl dd_M_beginSums_16 ?_
  refine lv_iload_n hx hb dd_M_beginSums_19 rfl (lv_at hl 0 rfl) ?_
  refine lv_lconst (v := 0) hx hb dd_M_beginSums_20 (by decide) ?_
  refine kx_last (q0 := 2) (t0 := 1) hx hb dd_M_beginSums_21 hK hP hD hS kg_3_2 rfl (by omega) (by omega) (fun H locs hP hD hS => ?_)
  have hP : va_P D vwCl [(o, .inr (0, [.int (nI th), .int (nI cn), .ref a0, .ref a1, .ref a2, .ref a3, .ref a4, .ref a5, .int (nI mn), .ref a6, .ref a7, .int (nI ps), .int (nI bk), .ref a8, .ref a9, .ref a10, .ref a11, .ref a12, .ref a13, .ref a14, .ref a15, .int (nI kf), .int lb, .int (nI lc), .long lo, .int (nI el), .int (nI ec), .long eo, .int eb, .long ed, .int (nI mp), .int (nI ml), .long md, .long mo, .int mb, .ref a16, .ref a17])), (a14, .inl (cJ, 6, .inr (.inl (vp_updL (vp_updL (vp_updL (vp_updL (vp_updL (vp_updL su 0 (0 : Int64)) 1 (0 : Int64)) 2 (0 : Int64)) 3 (0 : Int64)) 4 (0 : Int64)) 5 (0 : Int64))))), (a15, .inl (cJ, 6, .inr (.inl (vp_updL (vp_updL (vp_updL (vp_updL (vp_updL (vp_updL ke 0 (0 : Int64)) 1 (0 : Int64)) 2 (0 : Int64)) 3 (0 : Int64)) 4 (0 : Int64)) 5 (0 : Int64)))))] H := kx_cP kz_3_2 hP
  have hD : va_D A [(o, .inr (0, [.int (nI th), .int (nI cn), .ref a0, .ref a1, .ref a2, .ref a3, .ref a4, .ref a5, .int (nI mn), .ref a6, .ref a7, .int (nI ps), .int (nI bk), .ref a8, .ref a9, .ref a10, .ref a11, .ref a12, .ref a13, .ref a14, .ref a15, .int (nI kf), .int lb, .int (nI lc), .long lo, .int (nI el), .int (nI ec), .long eo, .int eb, .long ed, .int (nI mp), .int (nI ml), .long md, .long mo, .int mb, .ref a16, .ref a17])), (a14, .inl (cJ, 6, .inr (.inl (vp_updL (vp_updL (vp_updL (vp_updL (vp_updL (vp_updL su 0 (0 : Int64)) 1 (0 : Int64)) 2 (0 : Int64)) 3 (0 : Int64)) 4 (0 : Int64)) 5 (0 : Int64))))), (a15, .inl (cJ, 6, .inr (.inl (vp_updL (vp_updL (vp_updL (vp_updL (vp_updL (vp_updL ke 0 (0 : Int64)) 1 (0 : Int64)) 2 (0 : Int64)) 3 (0 : Int64)) 4 (0 : Int64)) 5 (0 : Int64)))))] := kx_cD kz_3_2 hD
  refine lv_iinc (v := nI 6) (lv' := [(2, .int (nI 6)), (0, .ref o), (1, .int (nI b))]) hx hb dd_M_beginSums_22 hl (k := 0) rfl (nI_add 5 1) (by decide) rfl (fun ls hl => ?_)
  refine lv_goto (tgt := 2) hx hb dd_M_beginSums_25 (by decide) ?_
  refine lv_iload_n hx hb dd_M_beginSums_2 rfl (lv_at hl 0 rfl) ?_
  refine lv_bipush (v := nI 6) hx hb dd_M_beginSums_3 (by decide) ?_
  refine lv_icmp_ge (tgt := 28) hx hb dd_M_beginSums_5 (by decide) (fun _ => ?_) (fun h => absurd (by decide +kernel) h)
  refine lv_aload_n hx hb dd_M_beginSums_28 rfl (lv_at hl 1 rfl) ?_
  refine lv_iload_n hx hb dd_M_beginSums_29 rfl (lv_at hl 2 rfl) ?_
  refine va_put (D := D) (ci := 0) (v := .int (nI b)) (ty := .int) (C := rr_M) (T := tt_M) (N := 37) hx hb hts hin0 ft_M ft_M_ok nn_M hown hK hP hD hS 0 kg_3_0 rfl 21 (by decide) lk3 (fun _ h9 => h9) rfl (by decide +kernel) rfl rfl (Nat.le_of_ble_eq_true rfl) dd_M_beginSums_30 (fun H locs hP hD hS => ?_)
  have hP : va_P D vwCl [(o, .inr (0, [.int (nI th), .int (nI cn), .ref a0, .ref a1, .ref a2, .ref a3, .ref a4, .ref a5, .int (nI mn), .ref a6, .ref a7, .int (nI ps), .int (nI bk), .ref a8, .ref a9, .ref a10, .ref a11, .ref a12, .ref a13, .ref a14, .ref a15, .int (nI b), .int lb, .int (nI lc), .long lo, .int (nI el), .int (nI ec), .long eo, .int eb, .long ed, .int (nI mp), .int (nI ml), .long md, .long mo, .int mb, .ref a16, .ref a17])), (a14, .inl (cJ, 6, .inr (.inl (vp_updL (vp_updL (vp_updL (vp_updL (vp_updL (vp_updL su 0 (0 : Int64)) 1 (0 : Int64)) 2 (0 : Int64)) 3 (0 : Int64)) 4 (0 : Int64)) 5 (0 : Int64))))), (a15, .inl (cJ, 6, .inr (.inl (vp_updL (vp_updL (vp_updL (vp_updL (vp_updL (vp_updL ke 0 (0 : Int64)) 1 (0 : Int64)) 2 (0 : Int64)) 3 (0 : Int64)) 4 (0 : Int64)) 5 (0 : Int64)))))] H := kx_cP kz_3_0 hP
  have hD : va_D A [(o, .inr (0, [.int (nI th), .int (nI cn), .ref a0, .ref a1, .ref a2, .ref a3, .ref a4, .ref a5, .int (nI mn), .ref a6, .ref a7, .int (nI ps), .int (nI bk), .ref a8, .ref a9, .ref a10, .ref a11, .ref a12, .ref a13, .ref a14, .ref a15, .int (nI b), .int lb, .int (nI lc), .long lo, .int (nI el), .int (nI ec), .long eo, .int eb, .long ed, .int (nI mp), .int (nI ml), .long md, .long mo, .int mb, .ref a16, .ref a17])), (a14, .inl (cJ, 6, .inr (.inl (vp_updL (vp_updL (vp_updL (vp_updL (vp_updL (vp_updL su 0 (0 : Int64)) 1 (0 : Int64)) 2 (0 : Int64)) 3 (0 : Int64)) 4 (0 : Int64)) 5 (0 : Int64))))), (a15, .inl (cJ, 6, .inr (.inl (vp_updL (vp_updL (vp_updL (vp_updL (vp_updL (vp_updL ke 0 (0 : Int64)) 1 (0 : Int64)) 2 (0 : Int64)) 3 (0 : Int64)) 4 (0 : Int64)) 5 (0 : Int64)))))] := kx_cD kz_3_0 hD
  rw [hQ]
  exact kx_vret hx hb hr hlocks hK hN hS dd_M_beginSums_33 ((vp_updL (vp_updL (vp_updL (vp_updL (vp_updL (vp_updL su 0 (0 : Int64)) 1 (0 : Int64)) 2 (0 : Int64)) 3 (0 : Int64)) 4 (0 : Int64)) 5 (0 : Int64)), (vp_updL (vp_updL (vp_updL (vp_updL (vp_updL (vp_updL ke 0 (0 : Int64)) 1 (0 : Int64)) 2 (0 : Int64)) 3 (0 : Int64)) 4 (0 : Int64)) 5 (0 : Int64))) hP hD (⟨pm_6 rfl rfl rfl rfl rfl rfl, pm_6 rfl rfl rfl rfl rfl rfl⟩)

theorem dd_M_take_0 : decode bb_M_take 0 = .ok (.aload_n 0, 1) := by decide +kernel
theorem dd_M_take_1 : decode bb_M_take 1 = .ok (.getfield 59, 3) := by decide +kernel
theorem dd_M_take_4 : decode bb_M_take 4 = .ok (.iconst 0, 1) := by decide +kernel
theorem dd_M_take_5 : decode bb_M_take 5 = .ok (.dup2, 1) := by decide +kernel
theorem dd_M_take_6 : decode bb_M_take 6 = .ok (.laload, 1) := by decide +kernel
theorem dd_M_take_7 : decode bb_M_take 7 = .ok (.aload_n 0, 1) := by decide +kernel
theorem dd_M_take_8 : decode bb_M_take 8 = .ok (.getfield 7, 3) := by decide +kernel
theorem dd_M_take_11 : decode bb_M_take 11 = .ok (.iload_n 1, 1) := by decide +kernel
theorem dd_M_take_12 : decode bb_M_take 12 = .ok (.iaload, 1) := by decide +kernel
theorem dd_M_take_13 : decode bb_M_take 13 = .ok (.iconst 3, 1) := by decide +kernel
theorem dd_M_take_14 : decode bb_M_take 14 = .ok (.if_icmp .ne (7), 3) := by decide +kernel
theorem dd_M_take_17 : decode bb_M_take 17 = .ok (.lconst 0, 1) := by decide +kernel
theorem dd_M_take_18 : decode bb_M_take 18 = .ok (.goto (10), 3) := by decide +kernel
theorem dd_M_take_21 : decode bb_M_take 21 = .ok (.aload_n 0, 1) := by decide +kernel
theorem dd_M_take_22 : decode bb_M_take 22 = .ok (.getfield 13, 3) := by decide +kernel
theorem dd_M_take_25 : decode bb_M_take 25 = .ok (.iload_n 1, 1) := by decide +kernel
theorem dd_M_take_26 : decode bb_M_take 26 = .ok (.iaload, 1) := by decide +kernel
theorem dd_M_take_27 : decode bb_M_take 27 = .ok (.i2l, 1) := by decide +kernel
theorem dd_M_take_28 : decode bb_M_take 28 = .ok (.ladd, 1) := by decide +kernel
theorem dd_M_take_29 : decode bb_M_take 29 = .ok (.lastore, 1) := by decide +kernel
theorem dd_M_take_30 : decode bb_M_take 30 = .ok (.aload_n 0, 1) := by decide +kernel
theorem dd_M_take_31 : decode bb_M_take 31 = .ok (.getfield 7, 3) := by decide +kernel
theorem dd_M_take_34 : decode bb_M_take 34 = .ok (.iload_n 1, 1) := by decide +kernel
theorem dd_M_take_35 : decode bb_M_take 35 = .ok (.iaload, 1) := by decide +kernel
theorem dd_M_take_36 : decode bb_M_take 36 = .ok (.iconst 1, 1) := by decide +kernel
theorem dd_M_take_37 : decode bb_M_take 37 = .ok (.if_icmp .ne (42), 3) := by decide +kernel
theorem dd_M_take_40 : decode bb_M_take 40 = .ok (.aload_n 0, 1) := by decide +kernel
theorem dd_M_take_41 : decode bb_M_take 41 = .ok (.getfield 59, 3) := by decide +kernel
theorem dd_M_take_44 : decode bb_M_take 44 = .ok (.iconst 1, 1) := by decide +kernel
theorem dd_M_take_45 : decode bb_M_take 45 = .ok (.aload_n 0, 1) := by decide +kernel
theorem dd_M_take_46 : decode bb_M_take 46 = .ok (.getfield 19, 3) := by decide +kernel
theorem dd_M_take_49 : decode bb_M_take 49 = .ok (.iload_n 1, 1) := by decide +kernel
theorem dd_M_take_50 : decode bb_M_take 50 = .ok (.iaload, 1) := by decide +kernel
theorem dd_M_take_51 : decode bb_M_take 51 = .ok (.iadd, 1) := by decide +kernel
theorem dd_M_take_52 : decode bb_M_take 52 = .ok (.dup2, 1) := by decide +kernel
theorem dd_M_take_53 : decode bb_M_take 53 = .ok (.laload, 1) := by decide +kernel
theorem dd_M_take_54 : decode bb_M_take 54 = .ok (.aload_n 0, 1) := by decide +kernel
theorem dd_M_take_55 : decode bb_M_take 55 = .ok (.getfield 16, 3) := by decide +kernel
theorem dd_M_take_58 : decode bb_M_take 58 = .ok (.iload_n 1, 1) := by decide +kernel
theorem dd_M_take_59 : decode bb_M_take 59 = .ok (.iaload, 1) := by decide +kernel
theorem dd_M_take_60 : decode bb_M_take 60 = .ok (.i2l, 1) := by decide +kernel
theorem dd_M_take_61 : decode bb_M_take 61 = .ok (.ladd, 1) := by decide +kernel
theorem dd_M_take_62 : decode bb_M_take 62 = .ok (.lastore, 1) := by decide +kernel
theorem dd_M_take_63 : decode bb_M_take 63 = .ok (.aload_n 0, 1) := by decide +kernel
theorem dd_M_take_64 : decode bb_M_take 64 = .ok (.getfield 59, 3) := by decide +kernel
theorem dd_M_take_67 : decode bb_M_take 67 = .ok (.iconst 5, 1) := by decide +kernel
theorem dd_M_take_68 : decode bb_M_take 68 = .ok (.dup2, 1) := by decide +kernel
theorem dd_M_take_69 : decode bb_M_take 69 = .ok (.laload, 1) := by decide +kernel
theorem dd_M_take_70 : decode bb_M_take 70 = .ok (.aload_n 0, 1) := by decide +kernel
theorem dd_M_take_71 : decode bb_M_take 71 = .ok (.getfield 22, 3) := by decide +kernel
theorem dd_M_take_74 : decode bb_M_take 74 = .ok (.iload_n 1, 1) := by decide +kernel
theorem dd_M_take_75 : decode bb_M_take 75 = .ok (.iaload, 1) := by decide +kernel
theorem dd_M_take_76 : decode bb_M_take 76 = .ok (.i2l, 1) := by decide +kernel
theorem dd_M_take_77 : decode bb_M_take 77 = .ok (.ladd, 1) := by decide +kernel
theorem dd_M_take_78 : decode bb_M_take 78 = .ok (.lastore, 1) := by decide +kernel
theorem dd_M_take_79 : decode bb_M_take 79 = .ok (.aload_n 0, 1) := by decide +kernel
theorem dd_M_take_80 : decode bb_M_take 80 = .ok (.getfield 7, 3) := by decide +kernel
theorem dd_M_take_83 : decode bb_M_take 83 = .ok (.iload_n 1, 1) := by decide +kernel
theorem dd_M_take_84 : decode bb_M_take 84 = .ok (.iaload, 1) := by decide +kernel
theorem dd_M_take_85 : decode bb_M_take 85 = .ok (.ifCond .eq (13), 3) := by decide +kernel
theorem dd_M_take_88 : decode bb_M_take 88 = .ok (.aload_n 0, 1) := by decide +kernel
theorem dd_M_take_89 : decode bb_M_take 89 = .ok (.getfield 7, 3) := by decide +kernel
theorem dd_M_take_92 : decode bb_M_take 92 = .ok (.iload_n 1, 1) := by decide +kernel
theorem dd_M_take_93 : decode bb_M_take 93 = .ok (.iaload, 1) := by decide +kernel
theorem dd_M_take_94 : decode bb_M_take 94 = .ok (.iconst 4, 1) := by decide +kernel
theorem dd_M_take_95 : decode bb_M_take 95 = .ok (.if_icmp .ne (34), 3) := by decide +kernel
theorem dd_M_take_98 : decode bb_M_take 98 = .ok (.aload_n 0, 1) := by decide +kernel
theorem dd_M_take_99 : decode bb_M_take 99 = .ok (.iload_n 1, 1) := by decide +kernel
theorem dd_M_take_100 : decode bb_M_take 100 = .ok (.putfield 109, 3) := by decide +kernel
theorem dd_M_take_103 : decode bb_M_take 103 = .ok (.iconst 0, 1) := by decide +kernel
theorem dd_M_take_104 : decode bb_M_take 104 = .ok (.istore_n 2, 1) := by decide +kernel
theorem dd_M_take_105 : decode bb_M_take 105 = .ok (.iload_n 2, 1) := by decide +kernel
theorem dd_M_take_106 : decode bb_M_take 106 = .ok (.bipush (6), 2) := by decide +kernel
theorem dd_M_take_108 : decode bb_M_take 108 = .ok (.if_icmp .ge (21), 3) := by decide +kernel
theorem dd_M_take_111 : decode bb_M_take 111 = .ok (.aload_n 0, 1) := by decide +kernel
theorem dd_M_take_112 : decode bb_M_take 112 = .ok (.getfield 62, 3) := by decide +kernel
theorem dd_M_take_115 : decode bb_M_take 115 = .ok (.iload_n 2, 1) := by decide +kernel
theorem dd_M_take_116 : decode bb_M_take 116 = .ok (.aload_n 0, 1) := by decide +kernel
theorem dd_M_take_117 : decode bb_M_take 117 = .ok (.getfield 59, 3) := by decide +kernel
theorem dd_M_take_120 : decode bb_M_take 120 = .ok (.iload_n 2, 1) := by decide +kernel
theorem dd_M_take_121 : decode bb_M_take 121 = .ok (.laload, 1) := by decide +kernel
theorem dd_M_take_122 : decode bb_M_take 122 = .ok (.lastore, 1) := by decide +kernel
theorem dd_M_take_123 : decode bb_M_take 123 = .ok (.iinc 2 (1), 3) := by decide +kernel
theorem dd_M_take_126 : decode bb_M_take 126 = .ok (.goto (-21), 3) := by decide +kernel
theorem dd_M_take_129 : decode bb_M_take 129 = .ok (.return_, 1) := by decide +kernel

set_option maxHeartbeats 4000000 in
set_option maxRecDepth 100000 in
theorem ct_M_take (l : Launch) (D : va_G) (cI cJ cZ : ClassId) (sz : Nat) (o : Nat) (th : Nat) (cn : Nat) (a0 : Nat) (a1 : Nat) (a2 : Nat) (a3 : Nat) (a4 : Nat) (a5 : Nat) (mn : Nat) (a6 : Nat) (a7 : Nat) (ps : Nat) (bk : Nat) (a8 : Nat) (a9 : Nat) (a10 : Nat) (a11 : Nat) (a12 : Nat) (a13 : Nat) (a14 : Nat) (a15 : Nat) (kf : Nat) (lb : Int32) (lc : Nat) (lo : Int64) (el : Nat) (ec : Nat) (eo : Int64) (eb : Int32) (ed : Int64) (mp : Nat) (ml : Nat) (md : Int64) (mo : Int64) (mb : Int32) (a16 : Nat) (a17 : Nat) (kd : Nat → Int32) (wd : Nat → Int32) (sr : Nat → Int32) (od : Nat → Int32) (sk : Nat → Int32) (su : Nat → Int64) (ke : Nat → Int64) (i : Nat) (og : Nat) (hi : i < 4097) (hog : kd i = nI 1 → od i = nI og ∧ og ≤ 3) : kx_Mv l yy_M_take ww_M_take ({ frames := 0, cells := 0, slots := 0, locals := 0 }) D vwCl (kx_ty cI cJ cZ) [.ref o, .int (nI i)] [(o, .inr (0, [.int (nI th), .int (nI cn), .ref a0, .ref a1, .ref a2, .ref a3, .ref a4, .ref a5, .int (nI mn), .ref a6, .ref a7, .int (nI ps), .int (nI bk), .ref a8, .ref a9, .ref a10, .ref a11, .ref a12, .ref a13, .ref a14, .ref a15, .int (nI kf), .int lb, .int (nI lc), .long lo, .int (nI el), .int (nI ec), .long eo, .int eb, .long ed, .int (nI mp), .int (nI ml), .long md, .long mo, .int mb, .ref a16, .ref a17])), (a0, .inl (cI, 4097, .inl kd)), (a1, .inl (cI, 4097, .inl wd)), (a2, .inl (cI, 4097, .inl sr)), (a3, .inl (cI, 4097, .inl od)), (a4, .inl (cI, 4097, .inl sk)), (a14, .inl (cJ, 6, .inr (.inl su))), (a15, .inl (cJ, 6, .inr (.inl ke)))] sz (fun (u : (Nat → Int64) × (Nat → Int64) × Nat) => (∀ k, k < 6 → u.1 k = su k + pm_it kd wd sr od sk i k) ∧ (if kd i = 0 ∨ kd i = nI 4 then u.2.2 = i ∧ ∀ k, k < 6 → u.2.1 k = u.1 k else u.2.2 = kf ∧ u.2.1 = ke)) (fun (u : (Nat → Int64) × (Nat → Int64) × Nat) => [(o, .inr (0, [.int (nI th), .int (nI cn), .ref a0, .ref a1, .ref a2, .ref a3, .ref a4, .ref a5, .int (nI mn), .ref a6, .ref a7, .int (nI ps), .int (nI bk), .ref a8, .ref a9, .ref a10, .ref a11, .ref a12, .ref a13, .ref a14, .ref a15, .int (nI u.2.2), .int lb, .int (nI lc), .long lo, .int (nI el), .int (nI ec), .long eo, .int eb, .long ed, .int (nI mp), .int (nI ml), .long md, .long mo, .int mb, .ref a16, .ref a17])), (a0, .inl (cI, 4097, .inl kd)), (a1, .inl (cI, 4097, .inl wd)), (a2, .inl (cI, 4097, .inl sr)), (a3, .inl (cI, 4097, .inl od)), (a4, .inl (cI, 4097, .inl sk)), (a14, .inl (cJ, 6, .inr (.inl u.1))), (a15, .inl (cJ, 6, .inr (.inl u.2.1)))]) 0 0 := by
  refine kx_startv (by decide) rfl (Nat.le_of_ble_eq_true rfl) ?_
  intro p e s m below meth c A ls hx hb hr hml hts hown hlocks hin hP hK hN hD hA hS hl
  have hl : lv_has ls 3 [(0, .ref o), (1, .int (nI i))] := hl
  have hown : s.vm.findClass rr_M = some m.cls := hown
  have lk0 := hts _ (kx_m kw_817)
  have hin0 : ∀ w ∈ u_ws rr_M tt_M 37, w ∈ ww_M_take := fun w h => kx_m (kf_M w h)
  have lk2 := hts _ (kx_m kw_800)
  have lk3 := hts _ (kx_m kw_801)
  have lk4 := hts _ (kx_m kw_819)
  have lk5 := hts _ (kx_m kw_818)
  have lk6 := hts _ (kx_m kw_803)
  have lk7 := hts _ (kx_m kw_802)
  have lk8 := hts _ (kx_m kw_804)
  obtain ⟨H, hH⟩ : ∃ H, H = s.heap := ⟨_, rfl⟩
  obtain ⟨locs, hlocs⟩ : ∃ z : List Loc, z = [] := ⟨_, rfl⟩
  have hP : va_P D vwCl [(o, .inr (0, [.int (nI th), .int (nI cn), .ref a0, .ref a1, .ref a2, .ref a3, .ref a4, .ref a5, .int (nI mn), .ref a6, .ref a7, .int (nI ps), .int (nI bk), .ref a8, .ref a9, .ref a10, .ref a11, .ref a12, .ref a13, .ref a14, .ref a15, .int (nI kf), .int lb, .int (nI lc), .long lo, .int (nI el), .int (nI ec), .long eo, .int eb, .long ed, .int (nI mp), .int (nI ml), .long md, .long mo, .int mb, .ref a16, .ref a17])), (a0, .inl (cI, 4097, .inl kd)), (a1, .inl (cI, 4097, .inl wd)), (a2, .inl (cI, 4097, .inl sr)), (a3, .inl (cI, 4097, .inl od)), (a4, .inl (cI, 4097, .inl sk)), (a14, .inl (cJ, 6, .inr (.inl su))), (a15, .inl (cJ, 6, .inr (.inl ke)))] H := by rw [hH]; exact hP
  have hS : va_S A s.heap H locs := by rw [hH, hlocs]; exact hS
  refine kx_gen hH hlocs ?_
  clear hH hlocs
  refine kx_nameQ (fun Q hQ => ?_)
  refine lv_aload_n hx hb dd_M_take_0 rfl (lv_at hl 0 rfl) ?_
  refine va_get (D := D) (ci := 0) (v := .ref a14) (C := rr_M) (T := tt_M) (N := 37) hx hb hts hin0 hown hK hP 0 kg_8_0 rfl 19 (by decide) lk0 (fun _ h9 => h9) rfl dd_M_take_1 ?_
  refine lv_iconst (v := nI 0) hx hb dd_M_take_4 (by decide) ?_
  refine lv_dup2_11 hx hb dd_M_take_5 rfl rfl ?_
  refine kx_lald (q0 := 6) (t0 := 1) hx hb dd_M_take_6 hK hP kg_8_6 rfl (by omega) (by omega) ?_
  refine lv_aload_n hx hb dd_M_take_7 rfl (lv_at hl 0 rfl) ?_
  refine va_get (D := D) (ci := 0) (v := .ref a0) (C := rr_M) (T := tt_M) (N := 37) hx hb hts hin0 hown hK hP 0 kg_8_0 rfl 2 (by decide) lk2 (fun _ h9 => h9) rfl dd_M_take_8 ?_
  refine lv_iload_n hx hb dd_M_take_11 rfl (lv_at hl 1 rfl) ?_
  refine kx_iald (q0 := 1) (t0 := 0) hx hb dd_M_take_12 hK hP kg_8_1 rfl (by omega) (by omega) ?_
  refine lv_iconst (v := nI 3) hx hb dd_M_take_13 (by decide) ?_
  refine kx_joinl (D := D) (cl := vwCl) (A := A) (ws := [(o, .inr (0, [.int (nI th), .int (nI cn), .ref a0, .ref a1, .ref a2, .ref a3, .ref a4, .ref a5, .int (nI mn), .ref a6, .ref a7, .int (nI ps), .int (nI bk), .ref a8, .ref a9, .ref a10, .ref a11, .ref a12, .ref a13, .ref a14, .ref a15, .int (nI kf), .int lb, .int (nI lc), .long lo, .int (nI el), .int (nI ec), .long eo, .int eb, .long ed, .int (nI mp), .int (nI ml), .long md, .long mo, .int mb, .ref a16, .ref a17])), (a0, .inl (cI, 4097, .inl kd)), (a1, .inl (cI, 4097, .inl wd)), (a2, .inl (cI, 4097, .inl sr)), (a3, .inl (cI, 4097, .inl od)), (a4, .inl (cI, 4097, .inl sk)), (a14, .inl (cJ, 6, .inr (.inl su))), (a15, .inl (cJ, 6, .inr (.inl ke)))]) (Y := 28) (ls1 := ls) (st1 := [.long (su 0), .int (nI 0), .ref a14]) (if (kd i) = (nI 3) then (0 : Int64) else ((wd i).toInt64)) (fun v28 H locs e_v28 hP hD hS => ?_) (fun K28 => ?_)
  · skip
    refine lv_ladd hx hb dd_M_take_28 ?_
    refine kx_last (q0 := 6) (t0 := 1) hx hb dd_M_take_29 hK hP hD hS kg_8_6 rfl (by omega) (by omega) (fun H locs hP hD hS => ?_)
    obtain ⟨s1, e_s1⟩ : ∃ z, z = vp_updL su 0 ((su 0) + v28) := ⟨_, rfl⟩
    have hP : va_P D vwCl [(o, .inr (0, [.int (nI th), .int (nI cn), .ref a0, .ref a1, .ref a2, .ref a3, .ref a4, .ref a5, .int (nI mn), .ref a6, .ref a7, .int (nI ps), .int (nI bk), .ref a8, .ref a9, .ref a10, .ref a11, .ref a12, .ref a13, .ref a14, .ref a15, .int (nI kf), .int lb, .int (nI lc), .long lo, .int (nI el), .int (nI ec), .long eo, .int eb, .long ed, .int (nI mp), .int (nI ml), .long md, .long mo, .int mb, .ref a16, .ref a17])), (a0, .inl (cI, 4097, .inl kd)), (a1, .inl (cI, 4097, .inl wd)), (a2, .inl (cI, 4097, .inl sr)), (a3, .inl (cI, 4097, .inl od)), (a4, .inl (cI, 4097, .inl sk)), (a14, .inl (cJ, 6, .inr (.inl s1))), (a15, .inl (cJ, 6, .inr (.inl ke)))] H := by rw [e_s1]; exact kx_cP kz_8_6 hP
    have hD : va_D A [(o, .inr (0, [.int (nI th), .int (nI cn), .ref a0, .ref a1, .ref a2, .ref a3, .ref a4, .ref a5, .int (nI mn), .ref a6, .ref a7, .int (nI ps), .int (nI bk), .ref a8, .ref a9, .ref a10, .ref a11, .ref a12, .ref a13, .ref a14, .ref a15, .int (nI kf), .int lb, .int (nI lc), .long lo, .int (nI el), .int (nI ec), .long eo, .int eb, .long ed, .int (nI mp), .int (nI ml), .long md, .long mo, .int mb, .ref a16, .ref a17])), (a0, .inl (cI, 4097, .inl kd)), (a1, .inl (cI, 4097, .inl wd)), (a2, .inl (cI, 4097, .inl sr)), (a3, .inl (cI, 4097, .inl od)), (a4, .inl (cI, 4097, .inl sk)), (a14, .inl (cJ, 6, .inr (.inl s1))), (a15, .inl (cJ, 6, .inr (.inl ke)))] := by rw [e_s1]; exact kx_cD kz_8_6 hD
    refine lv_aload_n hx hb dd_M_take_30 rfl (lv_at hl 0 rfl) ?_
    refine va_get (D := D) (ci := 0) (v := .ref a0) (C := rr_M) (T := tt_M) (N := 37) hx hb hts hin0 hown hK hP 0 kg_8_0 rfl 2 (by decide) lk2 (fun _ h9 => h9) rfl dd_M_take_31 ?_
    refine lv_iload_n hx hb dd_M_take_34 rfl (lv_at hl 1 rfl) ?_
    refine kx_iald (q0 := 1) (t0 := 0) hx hb dd_M_take_35 hK hP kg_8_1 rfl (by omega) (by omega) ?_
    refine lv_iconst (v := nI 1) hx hb dd_M_take_36 (by decide) ?_
    refine lv_icmp_ne (tgt := 79) hx hb dd_M_take_37 (by decide) (fun c37 => ?_) (fun c37 => ?_)
    · skip
      refine lv_aload_n hx hb dd_M_take_79 rfl (lv_at hl 0 rfl) ?_
      refine va_get (D := D) (ci := 0) (v := .ref a0) (C := rr_M) (T := tt_M) (N := 37) hx hb hts hin0 hown hK hP 0 kg_8_0 rfl 2 (by decide) lk2 (fun _ h9 => h9) rfl dd_M_take_80 ?_
      refine lv_iload_n hx hb dd_M_take_83 rfl (lv_at hl 1 rfl) ?_
      refine kx_iald (q0 := 1) (t0 := 0) hx hb dd_M_take_84 hK hP kg_8_1 rfl (by omega) (by omega) ?_
      refine lv_if_eq (tgt := 98) hx hb dd_M_take_85 (by decide) (fun c85 => ?_) (fun c85 => ?_)
      · skip
        refine lv_aload_n hx hb dd_M_take_98 rfl (lv_at hl 0 rfl) ?_
        refine lv_iload_n hx hb dd_M_take_99 rfl (lv_at hl 1 rfl) ?_
        refine va_put (D := D) (ci := 0) (v := .int (nI i)) (ty := .int) (C := rr_M) (T := tt_M) (N := 37) hx hb hts hin0 ft_M ft_M_ok nn_M hown hK hP hD hS 0 kg_8_0 rfl 21 (by decide) lk4 (fun _ h9 => h9) rfl (by decide +kernel) rfl rfl (Nat.le_of_ble_eq_true rfl) dd_M_take_100 (fun H locs hP hD hS => ?_)
        have hP : va_P D vwCl [(o, .inr (0, [.int (nI th), .int (nI cn), .ref a0, .ref a1, .ref a2, .ref a3, .ref a4, .ref a5, .int (nI mn), .ref a6, .ref a7, .int (nI ps), .int (nI bk), .ref a8, .ref a9, .ref a10, .ref a11, .ref a12, .ref a13, .ref a14, .ref a15, .int (nI i), .int lb, .int (nI lc), .long lo, .int (nI el), .int (nI ec), .long eo, .int eb, .long ed, .int (nI mp), .int (nI ml), .long md, .long mo, .int mb, .ref a16, .ref a17])), (a0, .inl (cI, 4097, .inl kd)), (a1, .inl (cI, 4097, .inl wd)), (a2, .inl (cI, 4097, .inl sr)), (a3, .inl (cI, 4097, .inl od)), (a4, .inl (cI, 4097, .inl sk)), (a14, .inl (cJ, 6, .inr (.inl s1))), (a15, .inl (cJ, 6, .inr (.inl ke)))] H := kx_cP kz_8_0 hP
        have hD : va_D A [(o, .inr (0, [.int (nI th), .int (nI cn), .ref a0, .ref a1, .ref a2, .ref a3, .ref a4, .ref a5, .int (nI mn), .ref a6, .ref a7, .int (nI ps), .int (nI bk), .ref a8, .ref a9, .ref a10, .ref a11, .ref a12, .ref a13, .ref a14, .ref a15, .int (nI i), .int lb, .int (nI lc), .long lo, .int (nI el), .int (nI ec), .long eo, .int eb, .long ed, .int (nI mp), .int (nI ml), .long md, .long mo, .int mb, .ref a16, .ref a17])), (a0, .inl (cI, 4097, .inl kd)), (a1, .inl (cI, 4097, .inl wd)), (a2, .inl (cI, 4097, .inl sr)), (a3, .inl (cI, 4097, .inl od)), (a4, .inl (cI, 4097, .inl sk)), (a14, .inl (cJ, 6, .inr (.inl s1))), (a15, .inl (cJ, 6, .inr (.inl ke)))] := kx_cD kz_8_0 hD
        refine lv_iconst (v := nI 0) hx hb dd_M_take_103 (by decide) ?_
        refine lv_istore_n (lv' := [(2, .int (nI 0)), (0, .ref o), (1, .int (nI i))]) hx hb dd_M_take_104 rfl hl (by decide) rfl (fun ls hl => ?_)
        refine lv_iload_n hx hb dd_M_take_105 rfl (lv_at hl 0 rfl) ?_
        refine lv_bipush (v := nI 6) hx hb dd_M_take_106 (by decide) ?_
        refine lv_icmp_ge (tgt := 129) hx hb dd_M_take_108 (by decide) (fun h => absurd h (by decide +kernel)) (fun _ => ?_)
        refine lv_aload_n hx hb dd_M_take_111 rfl (lv_at hl 1 rfl) ?_
        refine va_get (D := D) (ci := 0) (v := .ref a15) (C := rr_M) (T := tt_M) (N := 37) hx hb hts hin0 hown hK hP 0 kg_8_0 rfl 20 (by decide) lk5 (fun _ h9 => h9) rfl dd_M_take_112 ?_
        refine lv_iload_n hx hb dd_M_take_115 rfl (lv_at hl 0 rfl) ?_
        refine lv_aload_n hx hb dd_M_take_116 rfl (lv_at hl 1 rfl) ?_
        refine va_get (D := D) (ci := 0) (v := .ref a14) (C := rr_M) (T := tt_M) (N := 37) hx hb hts hin0 hown hK hP 0 kg_8_0 rfl 19 (by decide) lk0 (fun _ h9 => h9) rfl dd_M_take_117 ?_
        refine lv_iload_n hx hb dd_M_take_120 rfl (lv_at hl 0 rfl) ?_
        refine kx_lald (q0 := 6) (t0 := 1) hx hb dd_M_take_121 hK hP kg_8_6 rfl (by omega) (by omega) ?_
        refine kx_last (q0 := 7) (t0 := 1) hx hb dd_M_take_122 hK hP hD hS kg_8_7 rfl (by omega) (by omega) (fun H locs hP hD hS => ?_)
        have hP : va_P D vwCl [(o, .inr (0, [.int (nI th), .int (nI cn), .ref a0, .ref a1, .ref a2, .ref a3, .ref a4, .ref a5, .int (nI mn), .ref a6, .ref a7, .int (nI ps), .int (nI bk), .ref a8, .ref a9, .ref a10, .ref a11, .ref a12, .ref a13, .ref a14, .ref a15, .int (nI i), .int lb, .int (nI lc), .long lo, .int (nI el), .int (nI ec), .long eo, .int eb, .long ed, .int (nI mp), .int (nI ml), .long md, .long mo, .int mb, .ref a16, .ref a17])), (a0, .inl (cI, 4097, .inl kd)), (a1, .inl (cI, 4097, .inl wd)), (a2, .inl (cI, 4097, .inl sr)), (a3, .inl (cI, 4097, .inl od)), (a4, .inl (cI, 4097, .inl sk)), (a14, .inl (cJ, 6, .inr (.inl s1))), (a15, .inl (cJ, 6, .inr (.inl (vp_updL ke 0 (s1 0)))))] H := kx_cP kz_8_7 hP
        have hD : va_D A [(o, .inr (0, [.int (nI th), .int (nI cn), .ref a0, .ref a1, .ref a2, .ref a3, .ref a4, .ref a5, .int (nI mn), .ref a6, .ref a7, .int (nI ps), .int (nI bk), .ref a8, .ref a9, .ref a10, .ref a11, .ref a12, .ref a13, .ref a14, .ref a15, .int (nI i), .int lb, .int (nI lc), .long lo, .int (nI el), .int (nI ec), .long eo, .int eb, .long ed, .int (nI mp), .int (nI ml), .long md, .long mo, .int mb, .ref a16, .ref a17])), (a0, .inl (cI, 4097, .inl kd)), (a1, .inl (cI, 4097, .inl wd)), (a2, .inl (cI, 4097, .inl sr)), (a3, .inl (cI, 4097, .inl od)), (a4, .inl (cI, 4097, .inl sk)), (a14, .inl (cJ, 6, .inr (.inl s1))), (a15, .inl (cJ, 6, .inr (.inl (vp_updL ke 0 (s1 0)))))] := kx_cD kz_8_7 hD
        refine lv_iinc (v := nI 1) (lv' := [(2, .int (nI 1)), (0, .ref o), (1, .int (nI i))]) hx hb dd_M_take_123 hl (k := 0) rfl (nI_add 0 1) (by decide) rfl (fun ls hl => ?_)
        refine lv_goto (tgt := 105) hx hb dd_M_take_126 (by decide) ?_
        refine lv_iload_n hx hb dd_M_take_105 rfl (lv_at hl 0 rfl) ?_
        refine lv_bipush (v := nI 6) hx hb dd_M_take_106 (by decide) ?_
        refine lv_icmp_ge (tgt := 129) hx hb dd_M_take_108 (by decide) (fun h => absurd h (by decide +kernel)) (fun _ => ?_)
        refine lv_aload_n hx hb dd_M_take_111 rfl (lv_at hl 1 rfl) ?_
        refine va_get (D := D) (ci := 0) (v := .ref a15) (C := rr_M) (T := tt_M) (N := 37) hx hb hts hin0 hown hK hP 0 kg_8_0 rfl 20 (by decide) lk5 (fun _ h9 => h9) rfl dd_M_take_112 ?_
        refine lv_iload_n hx hb dd_M_take_115 rfl (lv_at hl 0 rfl) ?_
        refine lv_aload_n hx hb dd_M_take_116 rfl (lv_at hl 1 rfl) ?_
        refine va_get (D := D) (ci := 0) (v := .ref a14) (C := rr_M) (T := tt_M) (N := 37) hx hb hts hin0 hown hK hP 0 kg_8_0 rfl 19 (by decide) lk0 (fun _ h9 => h9) rfl dd_M_take_117 ?_
        refine lv_iload_n hx hb dd_M_take_120 rfl (lv_at hl 0 rfl) ?_
        refine kx_lald (q0 := 6) (t0 := 1) hx hb dd_M_take_121 hK hP kg_8_6 rfl (by omega) (by omega) ?_
        refine kx_last (q0 := 7) (t0 := 1) hx hb dd_M_take_122 hK hP hD hS kg_8_7 rfl (by omega) (by omega) (fun H locs hP hD hS => ?_)
        have hP : va_P D vwCl [(o, .inr (0, [.int (nI th), .int (nI cn), .ref a0, .ref a1, .ref a2, .ref a3, .ref a4, .ref a5, .int (nI mn), .ref a6, .ref a7, .int (nI ps), .int (nI bk), .ref a8, .ref a9, .ref a10, .ref a11, .ref a12, .ref a13, .ref a14, .ref a15, .int (nI i), .int lb, .int (nI lc), .long lo, .int (nI el), .int (nI ec), .long eo, .int eb, .long ed, .int (nI mp), .int (nI ml), .long md, .long mo, .int mb, .ref a16, .ref a17])), (a0, .inl (cI, 4097, .inl kd)), (a1, .inl (cI, 4097, .inl wd)), (a2, .inl (cI, 4097, .inl sr)), (a3, .inl (cI, 4097, .inl od)), (a4, .inl (cI, 4097, .inl sk)), (a14, .inl (cJ, 6, .inr (.inl s1))), (a15, .inl (cJ, 6, .inr (.inl (vp_updL (vp_updL ke 0 (s1 0)) 1 (s1 1)))))] H := kx_cP kz_8_7 hP
        have hD : va_D A [(o, .inr (0, [.int (nI th), .int (nI cn), .ref a0, .ref a1, .ref a2, .ref a3, .ref a4, .ref a5, .int (nI mn), .ref a6, .ref a7, .int (nI ps), .int (nI bk), .ref a8, .ref a9, .ref a10, .ref a11, .ref a12, .ref a13, .ref a14, .ref a15, .int (nI i), .int lb, .int (nI lc), .long lo, .int (nI el), .int (nI ec), .long eo, .int eb, .long ed, .int (nI mp), .int (nI ml), .long md, .long mo, .int mb, .ref a16, .ref a17])), (a0, .inl (cI, 4097, .inl kd)), (a1, .inl (cI, 4097, .inl wd)), (a2, .inl (cI, 4097, .inl sr)), (a3, .inl (cI, 4097, .inl od)), (a4, .inl (cI, 4097, .inl sk)), (a14, .inl (cJ, 6, .inr (.inl s1))), (a15, .inl (cJ, 6, .inr (.inl (vp_updL (vp_updL ke 0 (s1 0)) 1 (s1 1)))))] := kx_cD kz_8_7 hD
        refine lv_iinc (v := nI 2) (lv' := [(2, .int (nI 2)), (0, .ref o), (1, .int (nI i))]) hx hb dd_M_take_123 hl (k := 0) rfl (nI_add 1 1) (by decide) rfl (fun ls hl => ?_)
        refine lv_goto (tgt := 105) hx hb dd_M_take_126 (by decide) ?_
        refine lv_iload_n hx hb dd_M_take_105 rfl (lv_at hl 0 rfl) ?_
        refine lv_bipush (v := nI 6) hx hb dd_M_take_106 (by decide) ?_
        refine lv_icmp_ge (tgt := 129) hx hb dd_M_take_108 (by decide) (fun h => absurd h (by decide +kernel)) (fun _ => ?_)
        refine lv_aload_n hx hb dd_M_take_111 rfl (lv_at hl 1 rfl) ?_
        refine va_get (D := D) (ci := 0) (v := .ref a15) (C := rr_M) (T := tt_M) (N := 37) hx hb hts hin0 hown hK hP 0 kg_8_0 rfl 20 (by decide) lk5 (fun _ h9 => h9) rfl dd_M_take_112 ?_
        refine lv_iload_n hx hb dd_M_take_115 rfl (lv_at hl 0 rfl) ?_
        refine lv_aload_n hx hb dd_M_take_116 rfl (lv_at hl 1 rfl) ?_
        refine va_get (D := D) (ci := 0) (v := .ref a14) (C := rr_M) (T := tt_M) (N := 37) hx hb hts hin0 hown hK hP 0 kg_8_0 rfl 19 (by decide) lk0 (fun _ h9 => h9) rfl dd_M_take_117 ?_
        refine lv_iload_n hx hb dd_M_take_120 rfl (lv_at hl 0 rfl) ?_
        refine kx_lald (q0 := 6) (t0 := 1) hx hb dd_M_take_121 hK hP kg_8_6 rfl (by omega) (by omega) ?_
        refine kx_last (q0 := 7) (t0 := 1) hx hb dd_M_take_122 hK hP hD hS kg_8_7 rfl (by omega) (by omega) (fun H locs hP hD hS => ?_)
        have hP : va_P D vwCl [(o, .inr (0, [.int (nI th), .int (nI cn), .ref a0, .ref a1, .ref a2, .ref a3, .ref a4, .ref a5, .int (nI mn), .ref a6, .ref a7, .int (nI ps), .int (nI bk), .ref a8, .ref a9, .ref a10, .ref a11, .ref a12, .ref a13, .ref a14, .ref a15, .int (nI i), .int lb, .int (nI lc), .long lo, .int (nI el), .int (nI ec), .long eo, .int eb, .long ed, .int (nI mp), .int (nI ml), .long md, .long mo, .int mb, .ref a16, .ref a17])), (a0, .inl (cI, 4097, .inl kd)), (a1, .inl (cI, 4097, .inl wd)), (a2, .inl (cI, 4097, .inl sr)), (a3, .inl (cI, 4097, .inl od)), (a4, .inl (cI, 4097, .inl sk)), (a14, .inl (cJ, 6, .inr (.inl s1))), (a15, .inl (cJ, 6, .inr (.inl (vp_updL (vp_updL (vp_updL ke 0 (s1 0)) 1 (s1 1)) 2 (s1 2)))))] H := kx_cP kz_8_7 hP
        have hD : va_D A [(o, .inr (0, [.int (nI th), .int (nI cn), .ref a0, .ref a1, .ref a2, .ref a3, .ref a4, .ref a5, .int (nI mn), .ref a6, .ref a7, .int (nI ps), .int (nI bk), .ref a8, .ref a9, .ref a10, .ref a11, .ref a12, .ref a13, .ref a14, .ref a15, .int (nI i), .int lb, .int (nI lc), .long lo, .int (nI el), .int (nI ec), .long eo, .int eb, .long ed, .int (nI mp), .int (nI ml), .long md, .long mo, .int mb, .ref a16, .ref a17])), (a0, .inl (cI, 4097, .inl kd)), (a1, .inl (cI, 4097, .inl wd)), (a2, .inl (cI, 4097, .inl sr)), (a3, .inl (cI, 4097, .inl od)), (a4, .inl (cI, 4097, .inl sk)), (a14, .inl (cJ, 6, .inr (.inl s1))), (a15, .inl (cJ, 6, .inr (.inl (vp_updL (vp_updL (vp_updL ke 0 (s1 0)) 1 (s1 1)) 2 (s1 2)))))] := kx_cD kz_8_7 hD
        refine lv_iinc (v := nI 3) (lv' := [(2, .int (nI 3)), (0, .ref o), (1, .int (nI i))]) hx hb dd_M_take_123 hl (k := 0) rfl (nI_add 2 1) (by decide) rfl (fun ls hl => ?_)
        refine lv_goto (tgt := 105) hx hb dd_M_take_126 (by decide) ?_
        refine lv_iload_n hx hb dd_M_take_105 rfl (lv_at hl 0 rfl) ?_
        refine lv_bipush (v := nI 6) hx hb dd_M_take_106 (by decide) ?_
        refine lv_icmp_ge (tgt := 129) hx hb dd_M_take_108 (by decide) (fun h => absurd h (by decide +kernel)) (fun _ => ?_)
        refine lv_aload_n hx hb dd_M_take_111 rfl (lv_at hl 1 rfl) ?_
        refine va_get (D := D) (ci := 0) (v := .ref a15) (C := rr_M) (T := tt_M) (N := 37) hx hb hts hin0 hown hK hP 0 kg_8_0 rfl 20 (by decide) lk5 (fun _ h9 => h9) rfl dd_M_take_112 ?_
        refine lv_iload_n hx hb dd_M_take_115 rfl (lv_at hl 0 rfl) ?_
        refine lv_aload_n hx hb dd_M_take_116 rfl (lv_at hl 1 rfl) ?_
        refine va_get (D := D) (ci := 0) (v := .ref a14) (C := rr_M) (T := tt_M) (N := 37) hx hb hts hin0 hown hK hP 0 kg_8_0 rfl 19 (by decide) lk0 (fun _ h9 => h9) rfl dd_M_take_117 ?_
        refine lv_iload_n hx hb dd_M_take_120 rfl (lv_at hl 0 rfl) ?_
        refine kx_lald (q0 := 6) (t0 := 1) hx hb dd_M_take_121 hK hP kg_8_6 rfl (by omega) (by omega) ?_
        refine kx_last (q0 := 7) (t0 := 1) hx hb dd_M_take_122 hK hP hD hS kg_8_7 rfl (by omega) (by omega) (fun H locs hP hD hS => ?_)
        have hP : va_P D vwCl [(o, .inr (0, [.int (nI th), .int (nI cn), .ref a0, .ref a1, .ref a2, .ref a3, .ref a4, .ref a5, .int (nI mn), .ref a6, .ref a7, .int (nI ps), .int (nI bk), .ref a8, .ref a9, .ref a10, .ref a11, .ref a12, .ref a13, .ref a14, .ref a15, .int (nI i), .int lb, .int (nI lc), .long lo, .int (nI el), .int (nI ec), .long eo, .int eb, .long ed, .int (nI mp), .int (nI ml), .long md, .long mo, .int mb, .ref a16, .ref a17])), (a0, .inl (cI, 4097, .inl kd)), (a1, .inl (cI, 4097, .inl wd)), (a2, .inl (cI, 4097, .inl sr)), (a3, .inl (cI, 4097, .inl od)), (a4, .inl (cI, 4097, .inl sk)), (a14, .inl (cJ, 6, .inr (.inl s1))), (a15, .inl (cJ, 6, .inr (.inl (vp_updL (vp_updL (vp_updL (vp_updL ke 0 (s1 0)) 1 (s1 1)) 2 (s1 2)) 3 (s1 3)))))] H := kx_cP kz_8_7 hP
        have hD : va_D A [(o, .inr (0, [.int (nI th), .int (nI cn), .ref a0, .ref a1, .ref a2, .ref a3, .ref a4, .ref a5, .int (nI mn), .ref a6, .ref a7, .int (nI ps), .int (nI bk), .ref a8, .ref a9, .ref a10, .ref a11, .ref a12, .ref a13, .ref a14, .ref a15, .int (nI i), .int lb, .int (nI lc), .long lo, .int (nI el), .int (nI ec), .long eo, .int eb, .long ed, .int (nI mp), .int (nI ml), .long md, .long mo, .int mb, .ref a16, .ref a17])), (a0, .inl (cI, 4097, .inl kd)), (a1, .inl (cI, 4097, .inl wd)), (a2, .inl (cI, 4097, .inl sr)), (a3, .inl (cI, 4097, .inl od)), (a4, .inl (cI, 4097, .inl sk)), (a14, .inl (cJ, 6, .inr (.inl s1))), (a15, .inl (cJ, 6, .inr (.inl (vp_updL (vp_updL (vp_updL (vp_updL ke 0 (s1 0)) 1 (s1 1)) 2 (s1 2)) 3 (s1 3)))))] := kx_cD kz_8_7 hD
        refine lv_iinc (v := nI 4) (lv' := [(2, .int (nI 4)), (0, .ref o), (1, .int (nI i))]) hx hb dd_M_take_123 hl (k := 0) rfl (nI_add 3 1) (by decide) rfl (fun ls hl => ?_)
        refine lv_goto (tgt := 105) hx hb dd_M_take_126 (by decide) ?_
        refine lv_iload_n hx hb dd_M_take_105 rfl (lv_at hl 0 rfl) ?_
        refine lv_bipush (v := nI 6) hx hb dd_M_take_106 (by decide) ?_
        refine lv_icmp_ge (tgt := 129) hx hb dd_M_take_108 (by decide) (fun h => absurd h (by decide +kernel)) (fun _ => ?_)
        refine lv_aload_n hx hb dd_M_take_111 rfl (lv_at hl 1 rfl) ?_
        refine va_get (D := D) (ci := 0) (v := .ref a15) (C := rr_M) (T := tt_M) (N := 37) hx hb hts hin0 hown hK hP 0 kg_8_0 rfl 20 (by decide) lk5 (fun _ h9 => h9) rfl dd_M_take_112 ?_
        refine lv_iload_n hx hb dd_M_take_115 rfl (lv_at hl 0 rfl) ?_
        refine lv_aload_n hx hb dd_M_take_116 rfl (lv_at hl 1 rfl) ?_
        refine va_get (D := D) (ci := 0) (v := .ref a14) (C := rr_M) (T := tt_M) (N := 37) hx hb hts hin0 hown hK hP 0 kg_8_0 rfl 19 (by decide) lk0 (fun _ h9 => h9) rfl dd_M_take_117 ?_
        refine lv_iload_n hx hb dd_M_take_120 rfl (lv_at hl 0 rfl) ?_
        refine kx_lald (q0 := 6) (t0 := 1) hx hb dd_M_take_121 hK hP kg_8_6 rfl (by omega) (by omega) ?_
        refine kx_last (q0 := 7) (t0 := 1) hx hb dd_M_take_122 hK hP hD hS kg_8_7 rfl (by omega) (by omega) (fun H locs hP hD hS => ?_)
        have hP : va_P D vwCl [(o, .inr (0, [.int (nI th), .int (nI cn), .ref a0, .ref a1, .ref a2, .ref a3, .ref a4, .ref a5, .int (nI mn), .ref a6, .ref a7, .int (nI ps), .int (nI bk), .ref a8, .ref a9, .ref a10, .ref a11, .ref a12, .ref a13, .ref a14, .ref a15, .int (nI i), .int lb, .int (nI lc), .long lo, .int (nI el), .int (nI ec), .long eo, .int eb, .long ed, .int (nI mp), .int (nI ml), .long md, .long mo, .int mb, .ref a16, .ref a17])), (a0, .inl (cI, 4097, .inl kd)), (a1, .inl (cI, 4097, .inl wd)), (a2, .inl (cI, 4097, .inl sr)), (a3, .inl (cI, 4097, .inl od)), (a4, .inl (cI, 4097, .inl sk)), (a14, .inl (cJ, 6, .inr (.inl s1))), (a15, .inl (cJ, 6, .inr (.inl (vp_updL (vp_updL (vp_updL (vp_updL (vp_updL ke 0 (s1 0)) 1 (s1 1)) 2 (s1 2)) 3 (s1 3)) 4 (s1 4)))))] H := kx_cP kz_8_7 hP
        have hD : va_D A [(o, .inr (0, [.int (nI th), .int (nI cn), .ref a0, .ref a1, .ref a2, .ref a3, .ref a4, .ref a5, .int (nI mn), .ref a6, .ref a7, .int (nI ps), .int (nI bk), .ref a8, .ref a9, .ref a10, .ref a11, .ref a12, .ref a13, .ref a14, .ref a15, .int (nI i), .int lb, .int (nI lc), .long lo, .int (nI el), .int (nI ec), .long eo, .int eb, .long ed, .int (nI mp), .int (nI ml), .long md, .long mo, .int mb, .ref a16, .ref a17])), (a0, .inl (cI, 4097, .inl kd)), (a1, .inl (cI, 4097, .inl wd)), (a2, .inl (cI, 4097, .inl sr)), (a3, .inl (cI, 4097, .inl od)), (a4, .inl (cI, 4097, .inl sk)), (a14, .inl (cJ, 6, .inr (.inl s1))), (a15, .inl (cJ, 6, .inr (.inl (vp_updL (vp_updL (vp_updL (vp_updL (vp_updL ke 0 (s1 0)) 1 (s1 1)) 2 (s1 2)) 3 (s1 3)) 4 (s1 4)))))] := kx_cD kz_8_7 hD
        refine lv_iinc (v := nI 5) (lv' := [(2, .int (nI 5)), (0, .ref o), (1, .int (nI i))]) hx hb dd_M_take_123 hl (k := 0) rfl (nI_add 4 1) (by decide) rfl (fun ls hl => ?_)
        refine lv_goto (tgt := 105) hx hb dd_M_take_126 (by decide) ?_
        refine lv_iload_n hx hb dd_M_take_105 rfl (lv_at hl 0 rfl) ?_
        refine lv_bipush (v := nI 6) hx hb dd_M_take_106 (by decide) ?_
        refine lv_icmp_ge (tgt := 129) hx hb dd_M_take_108 (by decide) (fun h => absurd h (by decide +kernel)) (fun _ => ?_)
        refine lv_aload_n hx hb dd_M_take_111 rfl (lv_at hl 1 rfl) ?_
        refine va_get (D := D) (ci := 0) (v := .ref a15) (C := rr_M) (T := tt_M) (N := 37) hx hb hts hin0 hown hK hP 0 kg_8_0 rfl 20 (by decide) lk5 (fun _ h9 => h9) rfl dd_M_take_112 ?_
        refine lv_iload_n hx hb dd_M_take_115 rfl (lv_at hl 0 rfl) ?_
        refine lv_aload_n hx hb dd_M_take_116 rfl (lv_at hl 1 rfl) ?_
        refine va_get (D := D) (ci := 0) (v := .ref a14) (C := rr_M) (T := tt_M) (N := 37) hx hb hts hin0 hown hK hP 0 kg_8_0 rfl 19 (by decide) lk0 (fun _ h9 => h9) rfl dd_M_take_117 ?_
        refine lv_iload_n hx hb dd_M_take_120 rfl (lv_at hl 0 rfl) ?_
        refine kx_lald (q0 := 6) (t0 := 1) hx hb dd_M_take_121 hK hP kg_8_6 rfl (by omega) (by omega) ?_
        refine kx_last (q0 := 7) (t0 := 1) hx hb dd_M_take_122 hK hP hD hS kg_8_7 rfl (by omega) (by omega) (fun H locs hP hD hS => ?_)
        have hP : va_P D vwCl [(o, .inr (0, [.int (nI th), .int (nI cn), .ref a0, .ref a1, .ref a2, .ref a3, .ref a4, .ref a5, .int (nI mn), .ref a6, .ref a7, .int (nI ps), .int (nI bk), .ref a8, .ref a9, .ref a10, .ref a11, .ref a12, .ref a13, .ref a14, .ref a15, .int (nI i), .int lb, .int (nI lc), .long lo, .int (nI el), .int (nI ec), .long eo, .int eb, .long ed, .int (nI mp), .int (nI ml), .long md, .long mo, .int mb, .ref a16, .ref a17])), (a0, .inl (cI, 4097, .inl kd)), (a1, .inl (cI, 4097, .inl wd)), (a2, .inl (cI, 4097, .inl sr)), (a3, .inl (cI, 4097, .inl od)), (a4, .inl (cI, 4097, .inl sk)), (a14, .inl (cJ, 6, .inr (.inl s1))), (a15, .inl (cJ, 6, .inr (.inl (vp_updL (vp_updL (vp_updL (vp_updL (vp_updL (vp_updL ke 0 (s1 0)) 1 (s1 1)) 2 (s1 2)) 3 (s1 3)) 4 (s1 4)) 5 (s1 5)))))] H := kx_cP kz_8_7 hP
        have hD : va_D A [(o, .inr (0, [.int (nI th), .int (nI cn), .ref a0, .ref a1, .ref a2, .ref a3, .ref a4, .ref a5, .int (nI mn), .ref a6, .ref a7, .int (nI ps), .int (nI bk), .ref a8, .ref a9, .ref a10, .ref a11, .ref a12, .ref a13, .ref a14, .ref a15, .int (nI i), .int lb, .int (nI lc), .long lo, .int (nI el), .int (nI ec), .long eo, .int eb, .long ed, .int (nI mp), .int (nI ml), .long md, .long mo, .int mb, .ref a16, .ref a17])), (a0, .inl (cI, 4097, .inl kd)), (a1, .inl (cI, 4097, .inl wd)), (a2, .inl (cI, 4097, .inl sr)), (a3, .inl (cI, 4097, .inl od)), (a4, .inl (cI, 4097, .inl sk)), (a14, .inl (cJ, 6, .inr (.inl s1))), (a15, .inl (cJ, 6, .inr (.inl (vp_updL (vp_updL (vp_updL (vp_updL (vp_updL (vp_updL ke 0 (s1 0)) 1 (s1 1)) 2 (s1 2)) 3 (s1 3)) 4 (s1 4)) 5 (s1 5)))))] := kx_cD kz_8_7 hD
        refine lv_iinc (v := nI 6) (lv' := [(2, .int (nI 6)), (0, .ref o), (1, .int (nI i))]) hx hb dd_M_take_123 hl (k := 0) rfl (nI_add 5 1) (by decide) rfl (fun ls hl => ?_)
        refine lv_goto (tgt := 105) hx hb dd_M_take_126 (by decide) ?_
        refine lv_iload_n hx hb dd_M_take_105 rfl (lv_at hl 0 rfl) ?_
        refine lv_bipush (v := nI 6) hx hb dd_M_take_106 (by decide) ?_
        refine lv_icmp_ge (tgt := 129) hx hb dd_M_take_108 (by decide) (fun _ => ?_) (fun h => absurd (by decide +kernel) h)
        rw [hQ]
        exact kx_vret hx hb hr hlocks hK hN hS dd_M_take_129 (s1, vp_updL (vp_updL (vp_updL (vp_updL (vp_updL (vp_updL ke 0 (s1 0)) 1 (s1 1)) 2 (s1 2)) 3 (s1 3)) 4 (s1 4)) 5 (s1 5), i) hP hD (⟨by first | exact pm_take2 c37 (hog c37).1 hog3 e_v28 e_s1 e_s2 e_s3 | exact pm_take1 c37 e_v28 e_s1, by first | (rw [if_pos (Or.inl c85)]; exact ⟨rfl, pm_6 rfl rfl rfl rfl rfl rfl⟩) | (rw [if_pos (Or.inr c95)]; exact ⟨rfl, pm_6 rfl rfl rfl rfl rfl rfl⟩) | (rw [if_neg (fun q => q.elim c85 c95)]; exact ⟨rfl, rfl⟩)⟩)
      · skip
        refine lv_aload_n hx hb dd_M_take_88 rfl (lv_at hl 0 rfl) ?_
        refine va_get (D := D) (ci := 0) (v := .ref a0) (C := rr_M) (T := tt_M) (N := 37) hx hb hts hin0 hown hK hP 0 kg_8_0 rfl 2 (by decide) lk2 (fun _ h9 => h9) rfl dd_M_take_89 ?_
        refine lv_iload_n hx hb dd_M_take_92 rfl (lv_at hl 1 rfl) ?_
        refine kx_iald (q0 := 1) (t0 := 0) hx hb dd_M_take_93 hK hP kg_8_1 rfl (by omega) (by omega) ?_
        refine lv_iconst (v := nI 4) hx hb dd_M_take_94 (by decide) ?_
        refine lv_icmp_ne (tgt := 129) hx hb dd_M_take_95 (by decide) (fun c95 => ?_) (fun c95 => ?_)
        · skip
          rw [hQ]
          exact kx_vret hx hb hr hlocks hK hN hS dd_M_take_129 (s1, ke, kf) hP hD (⟨by first | exact pm_take2 c37 (hog c37).1 hog3 e_v28 e_s1 e_s2 e_s3 | exact pm_take1 c37 e_v28 e_s1, by first | (rw [if_pos (Or.inl c85)]; exact ⟨rfl, pm_6 rfl rfl rfl rfl rfl rfl⟩) | (rw [if_pos (Or.inr c95)]; exact ⟨rfl, pm_6 rfl rfl rfl rfl rfl rfl⟩) | (rw [if_neg (fun q => q.elim c85 c95)]; exact ⟨rfl, rfl⟩)⟩)
        · skip
          refine lv_aload_n hx hb dd_M_take_98 rfl (lv_at hl 0 rfl) ?_
          refine lv_iload_n hx hb dd_M_take_99 rfl (lv_at hl 1 rfl) ?_
          refine va_put (D := D) (ci := 0) (v := .int (nI i)) (ty := .int) (C := rr_M) (T := tt_M) (N := 37) hx hb hts hin0 ft_M ft_M_ok nn_M hown hK hP hD hS 0 kg_8_0 rfl 21 (by decide) lk4 (fun _ h9 => h9) rfl (by decide +kernel) rfl rfl (Nat.le_of_ble_eq_true rfl) dd_M_take_100 (fun H locs hP hD hS => ?_)
          have hP : va_P D vwCl [(o, .inr (0, [.int (nI th), .int (nI cn), .ref a0, .ref a1, .ref a2, .ref a3, .ref a4, .ref a5, .int (nI mn), .ref a6, .ref a7, .int (nI ps), .int (nI bk), .ref a8, .ref a9, .ref a10, .ref a11, .ref a12, .ref a13, .ref a14, .ref a15, .int (nI i), .int lb, .int (nI lc), .long lo, .int (nI el), .int (nI ec), .long eo, .int eb, .long ed, .int (nI mp), .int (nI ml), .long md, .long mo, .int mb, .ref a16, .ref a17])), (a0, .inl (cI, 4097, .inl kd)), (a1, .inl (cI, 4097, .inl wd)), (a2, .inl (cI, 4097, .inl sr)), (a3, .inl (cI, 4097, .inl od)), (a4, .inl (cI, 4097, .inl sk)), (a14, .inl (cJ, 6, .inr (.inl s1))), (a15, .inl (cJ, 6, .inr (.inl ke)))] H := kx_cP kz_8_0 hP
          have hD : va_D A [(o, .inr (0, [.int (nI th), .int (nI cn), .ref a0, .ref a1, .ref a2, .ref a3, .ref a4, .ref a5, .int (nI mn), .ref a6, .ref a7, .int (nI ps), .int (nI bk), .ref a8, .ref a9, .ref a10, .ref a11, .ref a12, .ref a13, .ref a14, .ref a15, .int (nI i), .int lb, .int (nI lc), .long lo, .int (nI el), .int (nI ec), .long eo, .int eb, .long ed, .int (nI mp), .int (nI ml), .long md, .long mo, .int mb, .ref a16, .ref a17])), (a0, .inl (cI, 4097, .inl kd)), (a1, .inl (cI, 4097, .inl wd)), (a2, .inl (cI, 4097, .inl sr)), (a3, .inl (cI, 4097, .inl od)), (a4, .inl (cI, 4097, .inl sk)), (a14, .inl (cJ, 6, .inr (.inl s1))), (a15, .inl (cJ, 6, .inr (.inl ke)))] := kx_cD kz_8_0 hD
          refine lv_iconst (v := nI 0) hx hb dd_M_take_103 (by decide) ?_
          refine lv_istore_n (lv' := [(2, .int (nI 0)), (0, .ref o), (1, .int (nI i))]) hx hb dd_M_take_104 rfl hl (by decide) rfl (fun ls hl => ?_)
          refine lv_iload_n hx hb dd_M_take_105 rfl (lv_at hl 0 rfl) ?_
          refine lv_bipush (v := nI 6) hx hb dd_M_take_106 (by decide) ?_
          refine lv_icmp_ge (tgt := 129) hx hb dd_M_take_108 (by decide) (fun h => absurd h (by decide +kernel)) (fun _ => ?_)
          refine lv_aload_n hx hb dd_M_take_111 rfl (lv_at hl 1 rfl) ?_
          refine va_get (D := D) (ci := 0) (v := .ref a15) (C := rr_M) (T := tt_M) (N := 37) hx hb hts hin0 hown hK hP 0 kg_8_0 rfl 20 (by decide) lk5 (fun _ h9 => h9) rfl dd_M_take_112 ?_
          refine lv_iload_n hx hb dd_M_take_115 rfl (lv_at hl 0 rfl) ?_
          refine lv_aload_n hx hb dd_M_take_116 rfl (lv_at hl 1 rfl) ?_
          refine va_get (D := D) (ci := 0) (v := .ref a14) (C := rr_M) (T := tt_M) (N := 37) hx hb hts hin0 hown hK hP 0 kg_8_0 rfl 19 (by decide) lk0 (fun _ h9 => h9) rfl dd_M_take_117 ?_
          refine lv_iload_n hx hb dd_M_take_120 rfl (lv_at hl 0 rfl) ?_
          refine kx_lald (q0 := 6) (t0 := 1) hx hb dd_M_take_121 hK hP kg_8_6 rfl (by omega) (by omega) ?_
          refine kx_last (q0 := 7) (t0 := 1) hx hb dd_M_take_122 hK hP hD hS kg_8_7 rfl (by omega) (by omega) (fun H locs hP hD hS => ?_)
          have hP : va_P D vwCl [(o, .inr (0, [.int (nI th), .int (nI cn), .ref a0, .ref a1, .ref a2, .ref a3, .ref a4, .ref a5, .int (nI mn), .ref a6, .ref a7, .int (nI ps), .int (nI bk), .ref a8, .ref a9, .ref a10, .ref a11, .ref a12, .ref a13, .ref a14, .ref a15, .int (nI i), .int lb, .int (nI lc), .long lo, .int (nI el), .int (nI ec), .long eo, .int eb, .long ed, .int (nI mp), .int (nI ml), .long md, .long mo, .int mb, .ref a16, .ref a17])), (a0, .inl (cI, 4097, .inl kd)), (a1, .inl (cI, 4097, .inl wd)), (a2, .inl (cI, 4097, .inl sr)), (a3, .inl (cI, 4097, .inl od)), (a4, .inl (cI, 4097, .inl sk)), (a14, .inl (cJ, 6, .inr (.inl s1))), (a15, .inl (cJ, 6, .inr (.inl (vp_updL ke 0 (s1 0)))))] H := kx_cP kz_8_7 hP
          have hD : va_D A [(o, .inr (0, [.int (nI th), .int (nI cn), .ref a0, .ref a1, .ref a2, .ref a3, .ref a4, .ref a5, .int (nI mn), .ref a6, .ref a7, .int (nI ps), .int (nI bk), .ref a8, .ref a9, .ref a10, .ref a11, .ref a12, .ref a13, .ref a14, .ref a15, .int (nI i), .int lb, .int (nI lc), .long lo, .int (nI el), .int (nI ec), .long eo, .int eb, .long ed, .int (nI mp), .int (nI ml), .long md, .long mo, .int mb, .ref a16, .ref a17])), (a0, .inl (cI, 4097, .inl kd)), (a1, .inl (cI, 4097, .inl wd)), (a2, .inl (cI, 4097, .inl sr)), (a3, .inl (cI, 4097, .inl od)), (a4, .inl (cI, 4097, .inl sk)), (a14, .inl (cJ, 6, .inr (.inl s1))), (a15, .inl (cJ, 6, .inr (.inl (vp_updL ke 0 (s1 0)))))] := kx_cD kz_8_7 hD
          refine lv_iinc (v := nI 1) (lv' := [(2, .int (nI 1)), (0, .ref o), (1, .int (nI i))]) hx hb dd_M_take_123 hl (k := 0) rfl (nI_add 0 1) (by decide) rfl (fun ls hl => ?_)
          refine lv_goto (tgt := 105) hx hb dd_M_take_126 (by decide) ?_
          refine lv_iload_n hx hb dd_M_take_105 rfl (lv_at hl 0 rfl) ?_
          refine lv_bipush (v := nI 6) hx hb dd_M_take_106 (by decide) ?_
          refine lv_icmp_ge (tgt := 129) hx hb dd_M_take_108 (by decide) (fun h => absurd h (by decide +kernel)) (fun _ => ?_)
          refine lv_aload_n hx hb dd_M_take_111 rfl (lv_at hl 1 rfl) ?_
          refine va_get (D := D) (ci := 0) (v := .ref a15) (C := rr_M) (T := tt_M) (N := 37) hx hb hts hin0 hown hK hP 0 kg_8_0 rfl 20 (by decide) lk5 (fun _ h9 => h9) rfl dd_M_take_112 ?_
          refine lv_iload_n hx hb dd_M_take_115 rfl (lv_at hl 0 rfl) ?_
          refine lv_aload_n hx hb dd_M_take_116 rfl (lv_at hl 1 rfl) ?_
          refine va_get (D := D) (ci := 0) (v := .ref a14) (C := rr_M) (T := tt_M) (N := 37) hx hb hts hin0 hown hK hP 0 kg_8_0 rfl 19 (by decide) lk0 (fun _ h9 => h9) rfl dd_M_take_117 ?_
          refine lv_iload_n hx hb dd_M_take_120 rfl (lv_at hl 0 rfl) ?_
          refine kx_lald (q0 := 6) (t0 := 1) hx hb dd_M_take_121 hK hP kg_8_6 rfl (by omega) (by omega) ?_
          refine kx_last (q0 := 7) (t0 := 1) hx hb dd_M_take_122 hK hP hD hS kg_8_7 rfl (by omega) (by omega) (fun H locs hP hD hS => ?_)
          have hP : va_P D vwCl [(o, .inr (0, [.int (nI th), .int (nI cn), .ref a0, .ref a1, .ref a2, .ref a3, .ref a4, .ref a5, .int (nI mn), .ref a6, .ref a7, .int (nI ps), .int (nI bk), .ref a8, .ref a9, .ref a10, .ref a11, .ref a12, .ref a13, .ref a14, .ref a15, .int (nI i), .int lb, .int (nI lc), .long lo, .int (nI el), .int (nI ec), .long eo, .int eb, .long ed, .int (nI mp), .int (nI ml), .long md, .long mo, .int mb, .ref a16, .ref a17])), (a0, .inl (cI, 4097, .inl kd)), (a1, .inl (cI, 4097, .inl wd)), (a2, .inl (cI, 4097, .inl sr)), (a3, .inl (cI, 4097, .inl od)), (a4, .inl (cI, 4097, .inl sk)), (a14, .inl (cJ, 6, .inr (.inl s1))), (a15, .inl (cJ, 6, .inr (.inl (vp_updL (vp_updL ke 0 (s1 0)) 1 (s1 1)))))] H := kx_cP kz_8_7 hP
          have hD : va_D A [(o, .inr (0, [.int (nI th), .int (nI cn), .ref a0, .ref a1, .ref a2, .ref a3, .ref a4, .ref a5, .int (nI mn), .ref a6, .ref a7, .int (nI ps), .int (nI bk), .ref a8, .ref a9, .ref a10, .ref a11, .ref a12, .ref a13, .ref a14, .ref a15, .int (nI i), .int lb, .int (nI lc), .long lo, .int (nI el), .int (nI ec), .long eo, .int eb, .long ed, .int (nI mp), .int (nI ml), .long md, .long mo, .int mb, .ref a16, .ref a17])), (a0, .inl (cI, 4097, .inl kd)), (a1, .inl (cI, 4097, .inl wd)), (a2, .inl (cI, 4097, .inl sr)), (a3, .inl (cI, 4097, .inl od)), (a4, .inl (cI, 4097, .inl sk)), (a14, .inl (cJ, 6, .inr (.inl s1))), (a15, .inl (cJ, 6, .inr (.inl (vp_updL (vp_updL ke 0 (s1 0)) 1 (s1 1)))))] := kx_cD kz_8_7 hD
          refine lv_iinc (v := nI 2) (lv' := [(2, .int (nI 2)), (0, .ref o), (1, .int (nI i))]) hx hb dd_M_take_123 hl (k := 0) rfl (nI_add 1 1) (by decide) rfl (fun ls hl => ?_)
          refine lv_goto (tgt := 105) hx hb dd_M_take_126 (by decide) ?_
          refine lv_iload_n hx hb dd_M_take_105 rfl (lv_at hl 0 rfl) ?_
          refine lv_bipush (v := nI 6) hx hb dd_M_take_106 (by decide) ?_
          refine lv_icmp_ge (tgt := 129) hx hb dd_M_take_108 (by decide) (fun h => absurd h (by decide +kernel)) (fun _ => ?_)
          refine lv_aload_n hx hb dd_M_take_111 rfl (lv_at hl 1 rfl) ?_
          refine va_get (D := D) (ci := 0) (v := .ref a15) (C := rr_M) (T := tt_M) (N := 37) hx hb hts hin0 hown hK hP 0 kg_8_0 rfl 20 (by decide) lk5 (fun _ h9 => h9) rfl dd_M_take_112 ?_
          refine lv_iload_n hx hb dd_M_take_115 rfl (lv_at hl 0 rfl) ?_
          refine lv_aload_n hx hb dd_M_take_116 rfl (lv_at hl 1 rfl) ?_
          refine va_get (D := D) (ci := 0) (v := .ref a14) (C := rr_M) (T := tt_M) (N := 37) hx hb hts hin0 hown hK hP 0 kg_8_0 rfl 19 (by decide) lk0 (fun _ h9 => h9) rfl dd_M_take_117 ?_
          refine lv_iload_n hx hb dd_M_take_120 rfl (lv_at hl 0 rfl) ?_
          refine kx_lald (q0 := 6) (t0 := 1) hx hb dd_M_take_121 hK hP kg_8_6 rfl (by omega) (by omega) ?_
          refine kx_last (q0 := 7) (t0 := 1) hx hb dd_M_take_122 hK hP hD hS kg_8_7 rfl (by omega) (by omega) (fun H locs hP hD hS => ?_)
          have hP : va_P D vwCl [(o, .inr (0, [.int (nI th), .int (nI cn), .ref a0, .ref a1, .ref a2, .ref a3, .ref a4, .ref a5, .int (nI mn), .ref a6, .ref a7, .int (nI ps), .int (nI bk), .ref a8, .ref a9, .ref a10, .ref a11, .ref a12, .ref a13, .ref a14, .ref a15, .int (nI i), .int lb, .int (nI lc), .long lo, .int (nI el), .int (nI ec), .long eo, .int eb, .long ed, .int (nI mp), .int (nI ml), .long md, .long mo, .int mb, .ref a16, .ref a17])), (a0, .inl (cI, 4097, .inl kd)), (a1, .inl (cI, 4097, .inl wd)), (a2, .inl (cI, 4097, .inl sr)), (a3, .inl (cI, 4097, .inl od)), (a4, .inl (cI, 4097, .inl sk)), (a14, .inl (cJ, 6, .inr (.inl s1))), (a15, .inl (cJ, 6, .inr (.inl (vp_updL (vp_updL (vp_updL ke 0 (s1 0)) 1 (s1 1)) 2 (s1 2)))))] H := kx_cP kz_8_7 hP
          have hD : va_D A [(o, .inr (0, [.int (nI th), .int (nI cn), .ref a0, .ref a1, .ref a2, .ref a3, .ref a4, .ref a5, .int (nI mn), .ref a6, .ref a7, .int (nI ps), .int (nI bk), .ref a8, .ref a9, .ref a10, .ref a11, .ref a12, .ref a13, .ref a14, .ref a15, .int (nI i), .int lb, .int (nI lc), .long lo, .int (nI el), .int (nI ec), .long eo, .int eb, .long ed, .int (nI mp), .int (nI ml), .long md, .long mo, .int mb, .ref a16, .ref a17])), (a0, .inl (cI, 4097, .inl kd)), (a1, .inl (cI, 4097, .inl wd)), (a2, .inl (cI, 4097, .inl sr)), (a3, .inl (cI, 4097, .inl od)), (a4, .inl (cI, 4097, .inl sk)), (a14, .inl (cJ, 6, .inr (.inl s1))), (a15, .inl (cJ, 6, .inr (.inl (vp_updL (vp_updL (vp_updL ke 0 (s1 0)) 1 (s1 1)) 2 (s1 2)))))] := kx_cD kz_8_7 hD
          refine lv_iinc (v := nI 3) (lv' := [(2, .int (nI 3)), (0, .ref o), (1, .int (nI i))]) hx hb dd_M_take_123 hl (k := 0) rfl (nI_add 2 1) (by decide) rfl (fun ls hl => ?_)
          refine lv_goto (tgt := 105) hx hb dd_M_take_126 (by decide) ?_
          refine lv_iload_n hx hb dd_M_take_105 rfl (lv_at hl 0 rfl) ?_
          refine lv_bipush (v := nI 6) hx hb dd_M_take_106 (by decide) ?_
          refine lv_icmp_ge (tgt := 129) hx hb dd_M_take_108 (by decide) (fun h => absurd h (by decide +kernel)) (fun _ => ?_)
          refine lv_aload_n hx hb dd_M_take_111 rfl (lv_at hl 1 rfl) ?_
          refine va_get (D := D) (ci := 0) (v := .ref a15) (C := rr_M) (T := tt_M) (N := 37) hx hb hts hin0 hown hK hP 0 kg_8_0 rfl 20 (by decide) lk5 (fun _ h9 => h9) rfl dd_M_take_112 ?_
          refine lv_iload_n hx hb dd_M_take_115 rfl (lv_at hl 0 rfl) ?_
          refine lv_aload_n hx hb dd_M_take_116 rfl (lv_at hl 1 rfl) ?_
          refine va_get (D := D) (ci := 0) (v := .ref a14) (C := rr_M) (T := tt_M) (N := 37) hx hb hts hin0 hown hK hP 0 kg_8_0 rfl 19 (by decide) lk0 (fun _ h9 => h9) rfl dd_M_take_117 ?_
          refine lv_iload_n hx hb dd_M_take_120 rfl (lv_at hl 0 rfl) ?_
          refine kx_lald (q0 := 6) (t0 := 1) hx hb dd_M_take_121 hK hP kg_8_6 rfl (by omega) (by omega) ?_
          refine kx_last (q0 := 7) (t0 := 1) hx hb dd_M_take_122 hK hP hD hS kg_8_7 rfl (by omega) (by omega) (fun H locs hP hD hS => ?_)
          have hP : va_P D vwCl [(o, .inr (0, [.int (nI th), .int (nI cn), .ref a0, .ref a1, .ref a2, .ref a3, .ref a4, .ref a5, .int (nI mn), .ref a6, .ref a7, .int (nI ps), .int (nI bk), .ref a8, .ref a9, .ref a10, .ref a11, .ref a12, .ref a13, .ref a14, .ref a15, .int (nI i), .int lb, .int (nI lc), .long lo, .int (nI el), .int (nI ec), .long eo, .int eb, .long ed, .int (nI mp), .int (nI ml), .long md, .long mo, .int mb, .ref a16, .ref a17])), (a0, .inl (cI, 4097, .inl kd)), (a1, .inl (cI, 4097, .inl wd)), (a2, .inl (cI, 4097, .inl sr)), (a3, .inl (cI, 4097, .inl od)), (a4, .inl (cI, 4097, .inl sk)), (a14, .inl (cJ, 6, .inr (.inl s1))), (a15, .inl (cJ, 6, .inr (.inl (vp_updL (vp_updL (vp_updL (vp_updL ke 0 (s1 0)) 1 (s1 1)) 2 (s1 2)) 3 (s1 3)))))] H := kx_cP kz_8_7 hP
          have hD : va_D A [(o, .inr (0, [.int (nI th), .int (nI cn), .ref a0, .ref a1, .ref a2, .ref a3, .ref a4, .ref a5, .int (nI mn), .ref a6, .ref a7, .int (nI ps), .int (nI bk), .ref a8, .ref a9, .ref a10, .ref a11, .ref a12, .ref a13, .ref a14, .ref a15, .int (nI i), .int lb, .int (nI lc), .long lo, .int (nI el), .int (nI ec), .long eo, .int eb, .long ed, .int (nI mp), .int (nI ml), .long md, .long mo, .int mb, .ref a16, .ref a17])), (a0, .inl (cI, 4097, .inl kd)), (a1, .inl (cI, 4097, .inl wd)), (a2, .inl (cI, 4097, .inl sr)), (a3, .inl (cI, 4097, .inl od)), (a4, .inl (cI, 4097, .inl sk)), (a14, .inl (cJ, 6, .inr (.inl s1))), (a15, .inl (cJ, 6, .inr (.inl (vp_updL (vp_updL (vp_updL (vp_updL ke 0 (s1 0)) 1 (s1 1)) 2 (s1 2)) 3 (s1 3)))))] := kx_cD kz_8_7 hD
          refine lv_iinc (v := nI 4) (lv' := [(2, .int (nI 4)), (0, .ref o), (1, .int (nI i))]) hx hb dd_M_take_123 hl (k := 0) rfl (nI_add 3 1) (by decide) rfl (fun ls hl => ?_)
          refine lv_goto (tgt := 105) hx hb dd_M_take_126 (by decide) ?_
          refine lv_iload_n hx hb dd_M_take_105 rfl (lv_at hl 0 rfl) ?_
          refine lv_bipush (v := nI 6) hx hb dd_M_take_106 (by decide) ?_
          refine lv_icmp_ge (tgt := 129) hx hb dd_M_take_108 (by decide) (fun h => absurd h (by decide +kernel)) (fun _ => ?_)
          refine lv_aload_n hx hb dd_M_take_111 rfl (lv_at hl 1 rfl) ?_
          refine va_get (D := D) (ci := 0) (v := .ref a15) (C := rr_M) (T := tt_M) (N := 37) hx hb hts hin0 hown hK hP 0 kg_8_0 rfl 20 (by decide) lk5 (fun _ h9 => h9) rfl dd_M_take_112 ?_
          refine lv_iload_n hx hb dd_M_take_115 rfl (lv_at hl 0 rfl) ?_
          refine lv_aload_n hx hb dd_M_take_116 rfl (lv_at hl 1 rfl) ?_
          refine va_get (D := D) (ci := 0) (v := .ref a14) (C := rr_M) (T := tt_M) (N := 37) hx hb hts hin0 hown hK hP 0 kg_8_0 rfl 19 (by decide) lk0 (fun _ h9 => h9) rfl dd_M_take_117 ?_
          refine lv_iload_n hx hb dd_M_take_120 rfl (lv_at hl 0 rfl) ?_
          refine kx_lald (q0 := 6) (t0 := 1) hx hb dd_M_take_121 hK hP kg_8_6 rfl (by omega) (by omega) ?_
          refine kx_last (q0 := 7) (t0 := 1) hx hb dd_M_take_122 hK hP hD hS kg_8_7 rfl (by omega) (by omega) (fun H locs hP hD hS => ?_)
          have hP : va_P D vwCl [(o, .inr (0, [.int (nI th), .int (nI cn), .ref a0, .ref a1, .ref a2, .ref a3, .ref a4, .ref a5, .int (nI mn), .ref a6, .ref a7, .int (nI ps), .int (nI bk), .ref a8, .ref a9, .ref a10, .ref a11, .ref a12, .ref a13, .ref a14, .ref a15, .int (nI i), .int lb, .int (nI lc), .long lo, .int (nI el), .int (nI ec), .long eo, .int eb, .long ed, .int (nI mp), .int (nI ml), .long md, .long mo, .int mb, .ref a16, .ref a17])), (a0, .inl (cI, 4097, .inl kd)), (a1, .inl (cI, 4097, .inl wd)), (a2, .inl (cI, 4097, .inl sr)), (a3, .inl (cI, 4097, .inl od)), (a4, .inl (cI, 4097, .inl sk)), (a14, .inl (cJ, 6, .inr (.inl s1))), (a15, .inl (cJ, 6, .inr (.inl (vp_updL (vp_updL (vp_updL (vp_updL (vp_updL ke 0 (s1 0)) 1 (s1 1)) 2 (s1 2)) 3 (s1 3)) 4 (s1 4)))))] H := kx_cP kz_8_7 hP
          have hD : va_D A [(o, .inr (0, [.int (nI th), .int (nI cn), .ref a0, .ref a1, .ref a2, .ref a3, .ref a4, .ref a5, .int (nI mn), .ref a6, .ref a7, .int (nI ps), .int (nI bk), .ref a8, .ref a9, .ref a10, .ref a11, .ref a12, .ref a13, .ref a14, .ref a15, .int (nI i), .int lb, .int (nI lc), .long lo, .int (nI el), .int (nI ec), .long eo, .int eb, .long ed, .int (nI mp), .int (nI ml), .long md, .long mo, .int mb, .ref a16, .ref a17])), (a0, .inl (cI, 4097, .inl kd)), (a1, .inl (cI, 4097, .inl wd)), (a2, .inl (cI, 4097, .inl sr)), (a3, .inl (cI, 4097, .inl od)), (a4, .inl (cI, 4097, .inl sk)), (a14, .inl (cJ, 6, .inr (.inl s1))), (a15, .inl (cJ, 6, .inr (.inl (vp_updL (vp_updL (vp_updL (vp_updL (vp_updL ke 0 (s1 0)) 1 (s1 1)) 2 (s1 2)) 3 (s1 3)) 4 (s1 4)))))] := kx_cD kz_8_7 hD
          refine lv_iinc (v := nI 5) (lv' := [(2, .int (nI 5)), (0, .ref o), (1, .int (nI i))]) hx hb dd_M_take_123 hl (k := 0) rfl (nI_add 4 1) (by decide) rfl (fun ls hl => ?_)
          refine lv_goto (tgt := 105) hx hb dd_M_take_126 (by decide) ?_
          refine lv_iload_n hx hb dd_M_take_105 rfl (lv_at hl 0 rfl) ?_
          refine lv_bipush (v := nI 6) hx hb dd_M_take_106 (by decide) ?_
          refine lv_icmp_ge (tgt := 129) hx hb dd_M_take_108 (by decide) (fun h => absurd h (by decide +kernel)) (fun _ => ?_)
          refine lv_aload_n hx hb dd_M_take_111 rfl (lv_at hl 1 rfl) ?_
          refine va_get (D := D) (ci := 0) (v := .ref a15) (C := rr_M) (T := tt_M) (N := 37) hx hb hts hin0 hown hK hP 0 kg_8_0 rfl 20 (by decide) lk5 (fun _ h9 => h9) rfl dd_M_take_112 ?_
          refine lv_iload_n hx hb dd_M_take_115 rfl (lv_at hl 0 rfl) ?_
          refine lv_aload_n hx hb dd_M_take_116 rfl (lv_at hl 1 rfl) ?_
          refine va_get (D := D) (ci := 0) (v := .ref a14) (C := rr_M) (T := tt_M) (N := 37) hx hb hts hin0 hown hK hP 0 kg_8_0 rfl 19 (by decide) lk0 (fun _ h9 => h9) rfl dd_M_take_117 ?_
          refine lv_iload_n hx hb dd_M_take_120 rfl (lv_at hl 0 rfl) ?_
          refine kx_lald (q0 := 6) (t0 := 1) hx hb dd_M_take_121 hK hP kg_8_6 rfl (by omega) (by omega) ?_
          refine kx_last (q0 := 7) (t0 := 1) hx hb dd_M_take_122 hK hP hD hS kg_8_7 rfl (by omega) (by omega) (fun H locs hP hD hS => ?_)
          have hP : va_P D vwCl [(o, .inr (0, [.int (nI th), .int (nI cn), .ref a0, .ref a1, .ref a2, .ref a3, .ref a4, .ref a5, .int (nI mn), .ref a6, .ref a7, .int (nI ps), .int (nI bk), .ref a8, .ref a9, .ref a10, .ref a11, .ref a12, .ref a13, .ref a14, .ref a15, .int (nI i), .int lb, .int (nI lc), .long lo, .int (nI el), .int (nI ec), .long eo, .int eb, .long ed, .int (nI mp), .int (nI ml), .long md, .long mo, .int mb, .ref a16, .ref a17])), (a0, .inl (cI, 4097, .inl kd)), (a1, .inl (cI, 4097, .inl wd)), (a2, .inl (cI, 4097, .inl sr)), (a3, .inl (cI, 4097, .inl od)), (a4, .inl (cI, 4097, .inl sk)), (a14, .inl (cJ, 6, .inr (.inl s1))), (a15, .inl (cJ, 6, .inr (.inl (vp_updL (vp_updL (vp_updL (vp_updL (vp_updL (vp_updL ke 0 (s1 0)) 1 (s1 1)) 2 (s1 2)) 3 (s1 3)) 4 (s1 4)) 5 (s1 5)))))] H := kx_cP kz_8_7 hP
          have hD : va_D A [(o, .inr (0, [.int (nI th), .int (nI cn), .ref a0, .ref a1, .ref a2, .ref a3, .ref a4, .ref a5, .int (nI mn), .ref a6, .ref a7, .int (nI ps), .int (nI bk), .ref a8, .ref a9, .ref a10, .ref a11, .ref a12, .ref a13, .ref a14, .ref a15, .int (nI i), .int lb, .int (nI lc), .long lo, .int (nI el), .int (nI ec), .long eo, .int eb, .long ed, .int (nI mp), .int (nI ml), .long md, .long mo, .int mb, .ref a16, .ref a17])), (a0, .inl (cI, 4097, .inl kd)), (a1, .inl (cI, 4097, .inl wd)), (a2, .inl (cI, 4097, .inl sr)), (a3, .inl (cI, 4097, .inl od)), (a4, .inl (cI, 4097, .inl sk)), (a14, .inl (cJ, 6, .inr (.inl s1))), (a15, .inl (cJ, 6, .inr (.inl (vp_updL (vp_updL (vp_updL (vp_updL (vp_updL (vp_updL ke 0 (s1 0)) 1 (s1 1)) 2 (s1 2)) 3 (s1 3)) 4 (s1 4)) 5 (s1 5)))))] := kx_cD kz_8_7 hD
          refine lv_iinc (v := nI 6) (lv' := [(2, .int (nI 6)), (0, .ref o), (1, .int (nI i))]) hx hb dd_M_take_123 hl (k := 0) rfl (nI_add 5 1) (by decide) rfl (fun ls hl => ?_)
          refine lv_goto (tgt := 105) hx hb dd_M_take_126 (by decide) ?_
          refine lv_iload_n hx hb dd_M_take_105 rfl (lv_at hl 0 rfl) ?_
          refine lv_bipush (v := nI 6) hx hb dd_M_take_106 (by decide) ?_
          refine lv_icmp_ge (tgt := 129) hx hb dd_M_take_108 (by decide) (fun _ => ?_) (fun h => absurd (by decide +kernel) h)
          rw [hQ]
          exact kx_vret hx hb hr hlocks hK hN hS dd_M_take_129 (s1, vp_updL (vp_updL (vp_updL (vp_updL (vp_updL (vp_updL ke 0 (s1 0)) 1 (s1 1)) 2 (s1 2)) 3 (s1 3)) 4 (s1 4)) 5 (s1 5), i) hP hD (⟨by first | exact pm_take2 c37 (hog c37).1 hog3 e_v28 e_s1 e_s2 e_s3 | exact pm_take1 c37 e_v28 e_s1, by first | (rw [if_pos (Or.inl c85)]; exact ⟨rfl, pm_6 rfl rfl rfl rfl rfl rfl⟩) | (rw [if_pos (Or.inr c95)]; exact ⟨rfl, pm_6 rfl rfl rfl rfl rfl rfl⟩) | (rw [if_neg (fun q => q.elim c85 c95)]; exact ⟨rfl, rfl⟩)⟩)
    · skip
      have hog3 := (hog c37).2
      refine lv_aload_n hx hb dd_M_take_40 rfl (lv_at hl 0 rfl) ?_
      refine va_get (D := D) (ci := 0) (v := .ref a14) (C := rr_M) (T := tt_M) (N := 37) hx hb hts hin0 hown hK hP 0 kg_8_0 rfl 19 (by decide) lk0 (fun _ h9 => h9) rfl dd_M_take_41 ?_
      refine lv_iconst (v := nI 1) hx hb dd_M_take_44 (by decide) ?_
      refine lv_aload_n hx hb dd_M_take_45 rfl (lv_at hl 0 rfl) ?_
      refine va_get (D := D) (ci := 0) (v := .ref a3) (C := rr_M) (T := tt_M) (N := 37) hx hb hts hin0 hown hK hP 0 kg_8_0 rfl 5 (by decide) lk6 (fun _ h9 => h9) rfl dd_M_take_46 ?_
      refine lv_iload_n hx hb dd_M_take_49 rfl (lv_at hl 1 rfl) ?_
      refine kx_iald (q0 := 4) (t0 := 0) hx hb dd_M_take_50 hK hP kg_8_4 rfl (by omega) (by omega) ?_
      refine kx_toN (n := og) ((hog c37).1) ?_
      refine kx_iadd hx hb dd_M_take_51 ?_
      refine lv_dup2_11 hx hb dd_M_take_52 rfl rfl ?_
      refine kx_lald (q0 := 6) (t0 := 1) hx hb dd_M_take_53 hK hP kg_8_6 rfl (by omega) (by omega) ?_
      refine lv_aload_n hx hb dd_M_take_54 rfl (lv_at hl 0 rfl) ?_
      refine va_get (D := D) (ci := 0) (v := .ref a2) (C := rr_M) (T := tt_M) (N := 37) hx hb hts hin0 hown hK hP 0 kg_8_0 rfl 4 (by decide) lk7 (fun _ h9 => h9) rfl dd_M_take_55 ?_
      refine lv_iload_n hx hb dd_M_take_58 rfl (lv_at hl 1 rfl) ?_
      refine kx_iald (q0 := 3) (t0 := 0) hx hb dd_M_take_59 hK hP kg_8_3 rfl (by omega) (by omega) ?_
      refine lv_i2l hx hb dd_M_take_60 rfl ?_
      refine lv_ladd hx hb dd_M_take_61 ?_
      refine kx_last (q0 := 6) (t0 := 1) hx hb dd_M_take_62 hK hP hD hS kg_8_6 rfl (by omega) (by omega) (fun H locs hP hD hS => ?_)
      obtain ⟨s2, e_s2⟩ : ∃ z, z = vp_updL s1 (1 + og) ((s1 (1 + og)) + ((sr i).toInt64)) := ⟨_, rfl⟩
      have hP : va_P D vwCl [(o, .inr (0, [.int (nI th), .int (nI cn), .ref a0, .ref a1, .ref a2, .ref a3, .ref a4, .ref a5, .int (nI mn), .ref a6, .ref a7, .int (nI ps), .int (nI bk), .ref a8, .ref a9, .ref a10, .ref a11, .ref a12, .ref a13, .ref a14, .ref a15, .int (nI kf), .int lb, .int (nI lc), .long lo, .int (nI el), .int (nI ec), .long eo, .int eb, .long ed, .int (nI mp), .int (nI ml), .long md, .long mo, .int mb, .ref a16, .ref a17])), (a0, .inl (cI, 4097, .inl kd)), (a1, .inl (cI, 4097, .inl wd)), (a2, .inl (cI, 4097, .inl sr)), (a3, .inl (cI, 4097, .inl od)), (a4, .inl (cI, 4097, .inl sk)), (a14, .inl (cJ, 6, .inr (.inl s2))), (a15, .inl (cJ, 6, .inr (.inl ke)))] H := by rw [e_s2]; exact kx_cP kz_8_6 hP
      have hD : va_D A [(o, .inr (0, [.int (nI th), .int (nI cn), .ref a0, .ref a1, .ref a2, .ref a3, .ref a4, .ref a5, .int (nI mn), .ref a6, .ref a7, .int (nI ps), .int (nI bk), .ref a8, .ref a9, .ref a10, .ref a11, .ref a12, .ref a13, .ref a14, .ref a15, .int (nI kf), .int lb, .int (nI lc), .long lo, .int (nI el), .int (nI ec), .long eo, .int eb, .long ed, .int (nI mp), .int (nI ml), .long md, .long mo, .int mb, .ref a16, .ref a17])), (a0, .inl (cI, 4097, .inl kd)), (a1, .inl (cI, 4097, .inl wd)), (a2, .inl (cI, 4097, .inl sr)), (a3, .inl (cI, 4097, .inl od)), (a4, .inl (cI, 4097, .inl sk)), (a14, .inl (cJ, 6, .inr (.inl s2))), (a15, .inl (cJ, 6, .inr (.inl ke)))] := by rw [e_s2]; exact kx_cD kz_8_6 hD
      refine lv_aload_n hx hb dd_M_take_63 rfl (lv_at hl 0 rfl) ?_
      refine va_get (D := D) (ci := 0) (v := .ref a14) (C := rr_M) (T := tt_M) (N := 37) hx hb hts hin0 hown hK hP 0 kg_8_0 rfl 19 (by decide) lk0 (fun _ h9 => h9) rfl dd_M_take_64 ?_
      refine lv_iconst (v := nI 5) hx hb dd_M_take_67 (by decide) ?_
      refine lv_dup2_11 hx hb dd_M_take_68 rfl rfl ?_
      refine kx_lald (q0 := 6) (t0 := 1) hx hb dd_M_take_69 hK hP kg_8_6 rfl (by omega) (by omega) ?_
      refine lv_aload_n hx hb dd_M_take_70 rfl (lv_at hl 0 rfl) ?_
      refine va_get (D := D) (ci := 0) (v := .ref a4) (C := rr_M) (T := tt_M) (N := 37) hx hb hts hin0 hown hK hP 0 kg_8_0 rfl 6 (by decide) lk8 (fun _ h9 => h9) rfl dd_M_take_71 ?_
      refine lv_iload_n hx hb dd_M_take_74 rfl (lv_at hl 1 rfl) ?_
      refine kx_iald (q0 := 5) (t0 := 0) hx hb dd_M_take_75 hK hP kg_8_5 rfl (by omega) (by omega) ?_
      refine lv_i2l hx hb dd_M_take_76 rfl ?_
      refine lv_ladd hx hb dd_M_take_77 ?_
      refine kx_last (q0 := 6) (t0 := 1) hx hb dd_M_take_78 hK hP hD hS kg_8_6 rfl (by omega) (by omega) (fun H locs hP hD hS => ?_)
      obtain ⟨s3, e_s3⟩ : ∃ z, z = vp_updL s2 5 ((s2 5) + ((sk i).toInt64)) := ⟨_, rfl⟩
      have hP : va_P D vwCl [(o, .inr (0, [.int (nI th), .int (nI cn), .ref a0, .ref a1, .ref a2, .ref a3, .ref a4, .ref a5, .int (nI mn), .ref a6, .ref a7, .int (nI ps), .int (nI bk), .ref a8, .ref a9, .ref a10, .ref a11, .ref a12, .ref a13, .ref a14, .ref a15, .int (nI kf), .int lb, .int (nI lc), .long lo, .int (nI el), .int (nI ec), .long eo, .int eb, .long ed, .int (nI mp), .int (nI ml), .long md, .long mo, .int mb, .ref a16, .ref a17])), (a0, .inl (cI, 4097, .inl kd)), (a1, .inl (cI, 4097, .inl wd)), (a2, .inl (cI, 4097, .inl sr)), (a3, .inl (cI, 4097, .inl od)), (a4, .inl (cI, 4097, .inl sk)), (a14, .inl (cJ, 6, .inr (.inl s3))), (a15, .inl (cJ, 6, .inr (.inl ke)))] H := by rw [e_s3]; exact kx_cP kz_8_6 hP
      have hD : va_D A [(o, .inr (0, [.int (nI th), .int (nI cn), .ref a0, .ref a1, .ref a2, .ref a3, .ref a4, .ref a5, .int (nI mn), .ref a6, .ref a7, .int (nI ps), .int (nI bk), .ref a8, .ref a9, .ref a10, .ref a11, .ref a12, .ref a13, .ref a14, .ref a15, .int (nI kf), .int lb, .int (nI lc), .long lo, .int (nI el), .int (nI ec), .long eo, .int eb, .long ed, .int (nI mp), .int (nI ml), .long md, .long mo, .int mb, .ref a16, .ref a17])), (a0, .inl (cI, 4097, .inl kd)), (a1, .inl (cI, 4097, .inl wd)), (a2, .inl (cI, 4097, .inl sr)), (a3, .inl (cI, 4097, .inl od)), (a4, .inl (cI, 4097, .inl sk)), (a14, .inl (cJ, 6, .inr (.inl s3))), (a15, .inl (cJ, 6, .inr (.inl ke)))] := by rw [e_s3]; exact kx_cD kz_8_6 hD
      refine lv_aload_n hx hb dd_M_take_79 rfl (lv_at hl 0 rfl) ?_
      refine va_get (D := D) (ci := 0) (v := .ref a0) (C := rr_M) (T := tt_M) (N := 37) hx hb hts hin0 hown hK hP 0 kg_8_0 rfl 2 (by decide) lk2 (fun _ h9 => h9) rfl dd_M_take_80 ?_
      refine lv_iload_n hx hb dd_M_take_83 rfl (lv_at hl 1 rfl) ?_
      refine kx_iald (q0 := 1) (t0 := 0) hx hb dd_M_take_84 hK hP kg_8_1 rfl (by omega) (by omega) ?_
      refine lv_if_eq (tgt := 98) hx hb dd_M_take_85 (by decide) (fun c85 => ?_) (fun c85 => ?_)
      · skip
        refine lv_aload_n hx hb dd_M_take_98 rfl (lv_at hl 0 rfl) ?_
        refine lv_iload_n hx hb dd_M_take_99 rfl (lv_at hl 1 rfl) ?_
        refine va_put (D := D) (ci := 0) (v := .int (nI i)) (ty := .int) (C := rr_M) (T := tt_M) (N := 37) hx hb hts hin0 ft_M ft_M_ok nn_M hown hK hP hD hS 0 kg_8_0 rfl 21 (by decide) lk4 (fun _ h9 => h9) rfl (by decide +kernel) rfl rfl (Nat.le_of_ble_eq_true rfl) dd_M_take_100 (fun H locs hP hD hS => ?_)
        have hP : va_P D vwCl [(o, .inr (0, [.int (nI th), .int (nI cn), .ref a0, .ref a1, .ref a2, .ref a3, .ref a4, .ref a5, .int (nI mn), .ref a6, .ref a7, .int (nI ps), .int (nI bk), .ref a8, .ref a9, .ref a10, .ref a11, .ref a12, .ref a13, .ref a14, .ref a15, .int (nI i), .int lb, .int (nI lc), .long lo, .int (nI el), .int (nI ec), .long eo, .int eb, .long ed, .int (nI mp), .int (nI ml), .long md, .long mo, .int mb, .ref a16, .ref a17])), (a0, .inl (cI, 4097, .inl kd)), (a1, .inl (cI, 4097, .inl wd)), (a2, .inl (cI, 4097, .inl sr)), (a3, .inl (cI, 4097, .inl od)), (a4, .inl (cI, 4097, .inl sk)), (a14, .inl (cJ, 6, .inr (.inl s3))), (a15, .inl (cJ, 6, .inr (.inl ke)))] H := kx_cP kz_8_0 hP
        have hD : va_D A [(o, .inr (0, [.int (nI th), .int (nI cn), .ref a0, .ref a1, .ref a2, .ref a3, .ref a4, .ref a5, .int (nI mn), .ref a6, .ref a7, .int (nI ps), .int (nI bk), .ref a8, .ref a9, .ref a10, .ref a11, .ref a12, .ref a13, .ref a14, .ref a15, .int (nI i), .int lb, .int (nI lc), .long lo, .int (nI el), .int (nI ec), .long eo, .int eb, .long ed, .int (nI mp), .int (nI ml), .long md, .long mo, .int mb, .ref a16, .ref a17])), (a0, .inl (cI, 4097, .inl kd)), (a1, .inl (cI, 4097, .inl wd)), (a2, .inl (cI, 4097, .inl sr)), (a3, .inl (cI, 4097, .inl od)), (a4, .inl (cI, 4097, .inl sk)), (a14, .inl (cJ, 6, .inr (.inl s3))), (a15, .inl (cJ, 6, .inr (.inl ke)))] := kx_cD kz_8_0 hD
        refine lv_iconst (v := nI 0) hx hb dd_M_take_103 (by decide) ?_
        refine lv_istore_n (lv' := [(2, .int (nI 0)), (0, .ref o), (1, .int (nI i))]) hx hb dd_M_take_104 rfl hl (by decide) rfl (fun ls hl => ?_)
        refine lv_iload_n hx hb dd_M_take_105 rfl (lv_at hl 0 rfl) ?_
        refine lv_bipush (v := nI 6) hx hb dd_M_take_106 (by decide) ?_
        refine lv_icmp_ge (tgt := 129) hx hb dd_M_take_108 (by decide) (fun h => absurd h (by decide +kernel)) (fun _ => ?_)
        refine lv_aload_n hx hb dd_M_take_111 rfl (lv_at hl 1 rfl) ?_
        refine va_get (D := D) (ci := 0) (v := .ref a15) (C := rr_M) (T := tt_M) (N := 37) hx hb hts hin0 hown hK hP 0 kg_8_0 rfl 20 (by decide) lk5 (fun _ h9 => h9) rfl dd_M_take_112 ?_
        refine lv_iload_n hx hb dd_M_take_115 rfl (lv_at hl 0 rfl) ?_
        refine lv_aload_n hx hb dd_M_take_116 rfl (lv_at hl 1 rfl) ?_
        refine va_get (D := D) (ci := 0) (v := .ref a14) (C := rr_M) (T := tt_M) (N := 37) hx hb hts hin0 hown hK hP 0 kg_8_0 rfl 19 (by decide) lk0 (fun _ h9 => h9) rfl dd_M_take_117 ?_
        refine lv_iload_n hx hb dd_M_take_120 rfl (lv_at hl 0 rfl) ?_
        refine kx_lald (q0 := 6) (t0 := 1) hx hb dd_M_take_121 hK hP kg_8_6 rfl (by omega) (by omega) ?_
        refine kx_last (q0 := 7) (t0 := 1) hx hb dd_M_take_122 hK hP hD hS kg_8_7 rfl (by omega) (by omega) (fun H locs hP hD hS => ?_)
        have hP : va_P D vwCl [(o, .inr (0, [.int (nI th), .int (nI cn), .ref a0, .ref a1, .ref a2, .ref a3, .ref a4, .ref a5, .int (nI mn), .ref a6, .ref a7, .int (nI ps), .int (nI bk), .ref a8, .ref a9, .ref a10, .ref a11, .ref a12, .ref a13, .ref a14, .ref a15, .int (nI i), .int lb, .int (nI lc), .long lo, .int (nI el), .int (nI ec), .long eo, .int eb, .long ed, .int (nI mp), .int (nI ml), .long md, .long mo, .int mb, .ref a16, .ref a17])), (a0, .inl (cI, 4097, .inl kd)), (a1, .inl (cI, 4097, .inl wd)), (a2, .inl (cI, 4097, .inl sr)), (a3, .inl (cI, 4097, .inl od)), (a4, .inl (cI, 4097, .inl sk)), (a14, .inl (cJ, 6, .inr (.inl s3))), (a15, .inl (cJ, 6, .inr (.inl (vp_updL ke 0 (s3 0)))))] H := kx_cP kz_8_7 hP
        have hD : va_D A [(o, .inr (0, [.int (nI th), .int (nI cn), .ref a0, .ref a1, .ref a2, .ref a3, .ref a4, .ref a5, .int (nI mn), .ref a6, .ref a7, .int (nI ps), .int (nI bk), .ref a8, .ref a9, .ref a10, .ref a11, .ref a12, .ref a13, .ref a14, .ref a15, .int (nI i), .int lb, .int (nI lc), .long lo, .int (nI el), .int (nI ec), .long eo, .int eb, .long ed, .int (nI mp), .int (nI ml), .long md, .long mo, .int mb, .ref a16, .ref a17])), (a0, .inl (cI, 4097, .inl kd)), (a1, .inl (cI, 4097, .inl wd)), (a2, .inl (cI, 4097, .inl sr)), (a3, .inl (cI, 4097, .inl od)), (a4, .inl (cI, 4097, .inl sk)), (a14, .inl (cJ, 6, .inr (.inl s3))), (a15, .inl (cJ, 6, .inr (.inl (vp_updL ke 0 (s3 0)))))] := kx_cD kz_8_7 hD
        refine lv_iinc (v := nI 1) (lv' := [(2, .int (nI 1)), (0, .ref o), (1, .int (nI i))]) hx hb dd_M_take_123 hl (k := 0) rfl (nI_add 0 1) (by decide) rfl (fun ls hl => ?_)
        refine lv_goto (tgt := 105) hx hb dd_M_take_126 (by decide) ?_
        refine lv_iload_n hx hb dd_M_take_105 rfl (lv_at hl 0 rfl) ?_
        refine lv_bipush (v := nI 6) hx hb dd_M_take_106 (by decide) ?_
        refine lv_icmp_ge (tgt := 129) hx hb dd_M_take_108 (by decide) (fun h => absurd h (by decide +kernel)) (fun _ => ?_)
        refine lv_aload_n hx hb dd_M_take_111 rfl (lv_at hl 1 rfl) ?_
        refine va_get (D := D) (ci := 0) (v := .ref a15) (C := rr_M) (T := tt_M) (N := 37) hx hb hts hin0 hown hK hP 0 kg_8_0 rfl 20 (by decide) lk5 (fun _ h9 => h9) rfl dd_M_take_112 ?_
        refine lv_iload_n hx hb dd_M_take_115 rfl (lv_at hl 0 rfl) ?_
        refine lv_aload_n hx hb dd_M_take_116 rfl (lv_at hl 1 rfl) ?_
        refine va_get (D := D) (ci := 0) (v := .ref a14) (C := rr_M) (T := tt_M) (N := 37) hx hb hts hin0 hown hK hP 0 kg_8_0 rfl 19 (by decide) lk0 (fun _ h9 => h9) rfl dd_M_take_117 ?_
        refine lv_iload_n hx hb dd_M_take_120 rfl (lv_at hl 0 rfl) ?_
        refine kx_lald (q0 := 6) (t0 := 1) hx hb dd_M_take_121 hK hP kg_8_6 rfl (by omega) (by omega) ?_
        refine kx_last (q0 := 7) (t0 := 1) hx hb dd_M_take_122 hK hP hD hS kg_8_7 rfl (by omega) (by omega) (fun H locs hP hD hS => ?_)
        have hP : va_P D vwCl [(o, .inr (0, [.int (nI th), .int (nI cn), .ref a0, .ref a1, .ref a2, .ref a3, .ref a4, .ref a5, .int (nI mn), .ref a6, .ref a7, .int (nI ps), .int (nI bk), .ref a8, .ref a9, .ref a10, .ref a11, .ref a12, .ref a13, .ref a14, .ref a15, .int (nI i), .int lb, .int (nI lc), .long lo, .int (nI el), .int (nI ec), .long eo, .int eb, .long ed, .int (nI mp), .int (nI ml), .long md, .long mo, .int mb, .ref a16, .ref a17])), (a0, .inl (cI, 4097, .inl kd)), (a1, .inl (cI, 4097, .inl wd)), (a2, .inl (cI, 4097, .inl sr)), (a3, .inl (cI, 4097, .inl od)), (a4, .inl (cI, 4097, .inl sk)), (a14, .inl (cJ, 6, .inr (.inl s3))), (a15, .inl (cJ, 6, .inr (.inl (vp_updL (vp_updL ke 0 (s3 0)) 1 (s3 1)))))] H := kx_cP kz_8_7 hP
        have hD : va_D A [(o, .inr (0, [.int (nI th), .int (nI cn), .ref a0, .ref a1, .ref a2, .ref a3, .ref a4, .ref a5, .int (nI mn), .ref a6, .ref a7, .int (nI ps), .int (nI bk), .ref a8, .ref a9, .ref a10, .ref a11, .ref a12, .ref a13, .ref a14, .ref a15, .int (nI i), .int lb, .int (nI lc), .long lo, .int (nI el), .int (nI ec), .long eo, .int eb, .long ed, .int (nI mp), .int (nI ml), .long md, .long mo, .int mb, .ref a16, .ref a17])), (a0, .inl (cI, 4097, .inl kd)), (a1, .inl (cI, 4097, .inl wd)), (a2, .inl (cI, 4097, .inl sr)), (a3, .inl (cI, 4097, .inl od)), (a4, .inl (cI, 4097, .inl sk)), (a14, .inl (cJ, 6, .inr (.inl s3))), (a15, .inl (cJ, 6, .inr (.inl (vp_updL (vp_updL ke 0 (s3 0)) 1 (s3 1)))))] := kx_cD kz_8_7 hD
        refine lv_iinc (v := nI 2) (lv' := [(2, .int (nI 2)), (0, .ref o), (1, .int (nI i))]) hx hb dd_M_take_123 hl (k := 0) rfl (nI_add 1 1) (by decide) rfl (fun ls hl => ?_)
        refine lv_goto (tgt := 105) hx hb dd_M_take_126 (by decide) ?_
        refine lv_iload_n hx hb dd_M_take_105 rfl (lv_at hl 0 rfl) ?_
        refine lv_bipush (v := nI 6) hx hb dd_M_take_106 (by decide) ?_
        refine lv_icmp_ge (tgt := 129) hx hb dd_M_take_108 (by decide) (fun h => absurd h (by decide +kernel)) (fun _ => ?_)
        refine lv_aload_n hx hb dd_M_take_111 rfl (lv_at hl 1 rfl) ?_
        refine va_get (D := D) (ci := 0) (v := .ref a15) (C := rr_M) (T := tt_M) (N := 37) hx hb hts hin0 hown hK hP 0 kg_8_0 rfl 20 (by decide) lk5 (fun _ h9 => h9) rfl dd_M_take_112 ?_
        refine lv_iload_n hx hb dd_M_take_115 rfl (lv_at hl 0 rfl) ?_
        refine lv_aload_n hx hb dd_M_take_116 rfl (lv_at hl 1 rfl) ?_
        refine va_get (D := D) (ci := 0) (v := .ref a14) (C := rr_M) (T := tt_M) (N := 37) hx hb hts hin0 hown hK hP 0 kg_8_0 rfl 19 (by decide) lk0 (fun _ h9 => h9) rfl dd_M_take_117 ?_
        refine lv_iload_n hx hb dd_M_take_120 rfl (lv_at hl 0 rfl) ?_
        refine kx_lald (q0 := 6) (t0 := 1) hx hb dd_M_take_121 hK hP kg_8_6 rfl (by omega) (by omega) ?_
        refine kx_last (q0 := 7) (t0 := 1) hx hb dd_M_take_122 hK hP hD hS kg_8_7 rfl (by omega) (by omega) (fun H locs hP hD hS => ?_)
        have hP : va_P D vwCl [(o, .inr (0, [.int (nI th), .int (nI cn), .ref a0, .ref a1, .ref a2, .ref a3, .ref a4, .ref a5, .int (nI mn), .ref a6, .ref a7, .int (nI ps), .int (nI bk), .ref a8, .ref a9, .ref a10, .ref a11, .ref a12, .ref a13, .ref a14, .ref a15, .int (nI i), .int lb, .int (nI lc), .long lo, .int (nI el), .int (nI ec), .long eo, .int eb, .long ed, .int (nI mp), .int (nI ml), .long md, .long mo, .int mb, .ref a16, .ref a17])), (a0, .inl (cI, 4097, .inl kd)), (a1, .inl (cI, 4097, .inl wd)), (a2, .inl (cI, 4097, .inl sr)), (a3, .inl (cI, 4097, .inl od)), (a4, .inl (cI, 4097, .inl sk)), (a14, .inl (cJ, 6, .inr (.inl s3))), (a15, .inl (cJ, 6, .inr (.inl (vp_updL (vp_updL (vp_updL ke 0 (s3 0)) 1 (s3 1)) 2 (s3 2)))))] H := kx_cP kz_8_7 hP
        have hD : va_D A [(o, .inr (0, [.int (nI th), .int (nI cn), .ref a0, .ref a1, .ref a2, .ref a3, .ref a4, .ref a5, .int (nI mn), .ref a6, .ref a7, .int (nI ps), .int (nI bk), .ref a8, .ref a9, .ref a10, .ref a11, .ref a12, .ref a13, .ref a14, .ref a15, .int (nI i), .int lb, .int (nI lc), .long lo, .int (nI el), .int (nI ec), .long eo, .int eb, .long ed, .int (nI mp), .int (nI ml), .long md, .long mo, .int mb, .ref a16, .ref a17])), (a0, .inl (cI, 4097, .inl kd)), (a1, .inl (cI, 4097, .inl wd)), (a2, .inl (cI, 4097, .inl sr)), (a3, .inl (cI, 4097, .inl od)), (a4, .inl (cI, 4097, .inl sk)), (a14, .inl (cJ, 6, .inr (.inl s3))), (a15, .inl (cJ, 6, .inr (.inl (vp_updL (vp_updL (vp_updL ke 0 (s3 0)) 1 (s3 1)) 2 (s3 2)))))] := kx_cD kz_8_7 hD
        refine lv_iinc (v := nI 3) (lv' := [(2, .int (nI 3)), (0, .ref o), (1, .int (nI i))]) hx hb dd_M_take_123 hl (k := 0) rfl (nI_add 2 1) (by decide) rfl (fun ls hl => ?_)
        refine lv_goto (tgt := 105) hx hb dd_M_take_126 (by decide) ?_
        refine lv_iload_n hx hb dd_M_take_105 rfl (lv_at hl 0 rfl) ?_
        refine lv_bipush (v := nI 6) hx hb dd_M_take_106 (by decide) ?_
        refine lv_icmp_ge (tgt := 129) hx hb dd_M_take_108 (by decide) (fun h => absurd h (by decide +kernel)) (fun _ => ?_)
        refine lv_aload_n hx hb dd_M_take_111 rfl (lv_at hl 1 rfl) ?_
        refine va_get (D := D) (ci := 0) (v := .ref a15) (C := rr_M) (T := tt_M) (N := 37) hx hb hts hin0 hown hK hP 0 kg_8_0 rfl 20 (by decide) lk5 (fun _ h9 => h9) rfl dd_M_take_112 ?_
        refine lv_iload_n hx hb dd_M_take_115 rfl (lv_at hl 0 rfl) ?_
        refine lv_aload_n hx hb dd_M_take_116 rfl (lv_at hl 1 rfl) ?_
        refine va_get (D := D) (ci := 0) (v := .ref a14) (C := rr_M) (T := tt_M) (N := 37) hx hb hts hin0 hown hK hP 0 kg_8_0 rfl 19 (by decide) lk0 (fun _ h9 => h9) rfl dd_M_take_117 ?_
        refine lv_iload_n hx hb dd_M_take_120 rfl (lv_at hl 0 rfl) ?_
        refine kx_lald (q0 := 6) (t0 := 1) hx hb dd_M_take_121 hK hP kg_8_6 rfl (by omega) (by omega) ?_
        refine kx_last (q0 := 7) (t0 := 1) hx hb dd_M_take_122 hK hP hD hS kg_8_7 rfl (by omega) (by omega) (fun H locs hP hD hS => ?_)
        have hP : va_P D vwCl [(o, .inr (0, [.int (nI th), .int (nI cn), .ref a0, .ref a1, .ref a2, .ref a3, .ref a4, .ref a5, .int (nI mn), .ref a6, .ref a7, .int (nI ps), .int (nI bk), .ref a8, .ref a9, .ref a10, .ref a11, .ref a12, .ref a13, .ref a14, .ref a15, .int (nI i), .int lb, .int (nI lc), .long lo, .int (nI el), .int (nI ec), .long eo, .int eb, .long ed, .int (nI mp), .int (nI ml), .long md, .long mo, .int mb, .ref a16, .ref a17])), (a0, .inl (cI, 4097, .inl kd)), (a1, .inl (cI, 4097, .inl wd)), (a2, .inl (cI, 4097, .inl sr)), (a3, .inl (cI, 4097, .inl od)), (a4, .inl (cI, 4097, .inl sk)), (a14, .inl (cJ, 6, .inr (.inl s3))), (a15, .inl (cJ, 6, .inr (.inl (vp_updL (vp_updL (vp_updL (vp_updL ke 0 (s3 0)) 1 (s3 1)) 2 (s3 2)) 3 (s3 3)))))] H := kx_cP kz_8_7 hP
        have hD : va_D A [(o, .inr (0, [.int (nI th), .int (nI cn), .ref a0, .ref a1, .ref a2, .ref a3, .ref a4, .ref a5, .int (nI mn), .ref a6, .ref a7, .int (nI ps), .int (nI bk), .ref a8, .ref a9, .ref a10, .ref a11, .ref a12, .ref a13, .ref a14, .ref a15, .int (nI i), .int lb, .int (nI lc), .long lo, .int (nI el), .int (nI ec), .long eo, .int eb, .long ed, .int (nI mp), .int (nI ml), .long md, .long mo, .int mb, .ref a16, .ref a17])), (a0, .inl (cI, 4097, .inl kd)), (a1, .inl (cI, 4097, .inl wd)), (a2, .inl (cI, 4097, .inl sr)), (a3, .inl (cI, 4097, .inl od)), (a4, .inl (cI, 4097, .inl sk)), (a14, .inl (cJ, 6, .inr (.inl s3))), (a15, .inl (cJ, 6, .inr (.inl (vp_updL (vp_updL (vp_updL (vp_updL ke 0 (s3 0)) 1 (s3 1)) 2 (s3 2)) 3 (s3 3)))))] := kx_cD kz_8_7 hD
        refine lv_iinc (v := nI 4) (lv' := [(2, .int (nI 4)), (0, .ref o), (1, .int (nI i))]) hx hb dd_M_take_123 hl (k := 0) rfl (nI_add 3 1) (by decide) rfl (fun ls hl => ?_)
        refine lv_goto (tgt := 105) hx hb dd_M_take_126 (by decide) ?_
        refine lv_iload_n hx hb dd_M_take_105 rfl (lv_at hl 0 rfl) ?_
        refine lv_bipush (v := nI 6) hx hb dd_M_take_106 (by decide) ?_
        refine lv_icmp_ge (tgt := 129) hx hb dd_M_take_108 (by decide) (fun h => absurd h (by decide +kernel)) (fun _ => ?_)
        refine lv_aload_n hx hb dd_M_take_111 rfl (lv_at hl 1 rfl) ?_
        refine va_get (D := D) (ci := 0) (v := .ref a15) (C := rr_M) (T := tt_M) (N := 37) hx hb hts hin0 hown hK hP 0 kg_8_0 rfl 20 (by decide) lk5 (fun _ h9 => h9) rfl dd_M_take_112 ?_
        refine lv_iload_n hx hb dd_M_take_115 rfl (lv_at hl 0 rfl) ?_
        refine lv_aload_n hx hb dd_M_take_116 rfl (lv_at hl 1 rfl) ?_
        refine va_get (D := D) (ci := 0) (v := .ref a14) (C := rr_M) (T := tt_M) (N := 37) hx hb hts hin0 hown hK hP 0 kg_8_0 rfl 19 (by decide) lk0 (fun _ h9 => h9) rfl dd_M_take_117 ?_
        refine lv_iload_n hx hb dd_M_take_120 rfl (lv_at hl 0 rfl) ?_
        refine kx_lald (q0 := 6) (t0 := 1) hx hb dd_M_take_121 hK hP kg_8_6 rfl (by omega) (by omega) ?_
        refine kx_last (q0 := 7) (t0 := 1) hx hb dd_M_take_122 hK hP hD hS kg_8_7 rfl (by omega) (by omega) (fun H locs hP hD hS => ?_)
        have hP : va_P D vwCl [(o, .inr (0, [.int (nI th), .int (nI cn), .ref a0, .ref a1, .ref a2, .ref a3, .ref a4, .ref a5, .int (nI mn), .ref a6, .ref a7, .int (nI ps), .int (nI bk), .ref a8, .ref a9, .ref a10, .ref a11, .ref a12, .ref a13, .ref a14, .ref a15, .int (nI i), .int lb, .int (nI lc), .long lo, .int (nI el), .int (nI ec), .long eo, .int eb, .long ed, .int (nI mp), .int (nI ml), .long md, .long mo, .int mb, .ref a16, .ref a17])), (a0, .inl (cI, 4097, .inl kd)), (a1, .inl (cI, 4097, .inl wd)), (a2, .inl (cI, 4097, .inl sr)), (a3, .inl (cI, 4097, .inl od)), (a4, .inl (cI, 4097, .inl sk)), (a14, .inl (cJ, 6, .inr (.inl s3))), (a15, .inl (cJ, 6, .inr (.inl (vp_updL (vp_updL (vp_updL (vp_updL (vp_updL ke 0 (s3 0)) 1 (s3 1)) 2 (s3 2)) 3 (s3 3)) 4 (s3 4)))))] H := kx_cP kz_8_7 hP
        have hD : va_D A [(o, .inr (0, [.int (nI th), .int (nI cn), .ref a0, .ref a1, .ref a2, .ref a3, .ref a4, .ref a5, .int (nI mn), .ref a6, .ref a7, .int (nI ps), .int (nI bk), .ref a8, .ref a9, .ref a10, .ref a11, .ref a12, .ref a13, .ref a14, .ref a15, .int (nI i), .int lb, .int (nI lc), .long lo, .int (nI el), .int (nI ec), .long eo, .int eb, .long ed, .int (nI mp), .int (nI ml), .long md, .long mo, .int mb, .ref a16, .ref a17])), (a0, .inl (cI, 4097, .inl kd)), (a1, .inl (cI, 4097, .inl wd)), (a2, .inl (cI, 4097, .inl sr)), (a3, .inl (cI, 4097, .inl od)), (a4, .inl (cI, 4097, .inl sk)), (a14, .inl (cJ, 6, .inr (.inl s3))), (a15, .inl (cJ, 6, .inr (.inl (vp_updL (vp_updL (vp_updL (vp_updL (vp_updL ke 0 (s3 0)) 1 (s3 1)) 2 (s3 2)) 3 (s3 3)) 4 (s3 4)))))] := kx_cD kz_8_7 hD
        refine lv_iinc (v := nI 5) (lv' := [(2, .int (nI 5)), (0, .ref o), (1, .int (nI i))]) hx hb dd_M_take_123 hl (k := 0) rfl (nI_add 4 1) (by decide) rfl (fun ls hl => ?_)
        refine lv_goto (tgt := 105) hx hb dd_M_take_126 (by decide) ?_
        refine lv_iload_n hx hb dd_M_take_105 rfl (lv_at hl 0 rfl) ?_
        refine lv_bipush (v := nI 6) hx hb dd_M_take_106 (by decide) ?_
        refine lv_icmp_ge (tgt := 129) hx hb dd_M_take_108 (by decide) (fun h => absurd h (by decide +kernel)) (fun _ => ?_)
        refine lv_aload_n hx hb dd_M_take_111 rfl (lv_at hl 1 rfl) ?_
        refine va_get (D := D) (ci := 0) (v := .ref a15) (C := rr_M) (T := tt_M) (N := 37) hx hb hts hin0 hown hK hP 0 kg_8_0 rfl 20 (by decide) lk5 (fun _ h9 => h9) rfl dd_M_take_112 ?_
        refine lv_iload_n hx hb dd_M_take_115 rfl (lv_at hl 0 rfl) ?_
        refine lv_aload_n hx hb dd_M_take_116 rfl (lv_at hl 1 rfl) ?_
        refine va_get (D := D) (ci := 0) (v := .ref a14) (C := rr_M) (T := tt_M) (N := 37) hx hb hts hin0 hown hK hP 0 kg_8_0 rfl 19 (by decide) lk0 (fun _ h9 => h9) rfl dd_M_take_117 ?_
        refine lv_iload_n hx hb dd_M_take_120 rfl (lv_at hl 0 rfl) ?_
        refine kx_lald (q0 := 6) (t0 := 1) hx hb dd_M_take_121 hK hP kg_8_6 rfl (by omega) (by omega) ?_
        refine kx_last (q0 := 7) (t0 := 1) hx hb dd_M_take_122 hK hP hD hS kg_8_7 rfl (by omega) (by omega) (fun H locs hP hD hS => ?_)
        have hP : va_P D vwCl [(o, .inr (0, [.int (nI th), .int (nI cn), .ref a0, .ref a1, .ref a2, .ref a3, .ref a4, .ref a5, .int (nI mn), .ref a6, .ref a7, .int (nI ps), .int (nI bk), .ref a8, .ref a9, .ref a10, .ref a11, .ref a12, .ref a13, .ref a14, .ref a15, .int (nI i), .int lb, .int (nI lc), .long lo, .int (nI el), .int (nI ec), .long eo, .int eb, .long ed, .int (nI mp), .int (nI ml), .long md, .long mo, .int mb, .ref a16, .ref a17])), (a0, .inl (cI, 4097, .inl kd)), (a1, .inl (cI, 4097, .inl wd)), (a2, .inl (cI, 4097, .inl sr)), (a3, .inl (cI, 4097, .inl od)), (a4, .inl (cI, 4097, .inl sk)), (a14, .inl (cJ, 6, .inr (.inl s3))), (a15, .inl (cJ, 6, .inr (.inl (vp_updL (vp_updL (vp_updL (vp_updL (vp_updL (vp_updL ke 0 (s3 0)) 1 (s3 1)) 2 (s3 2)) 3 (s3 3)) 4 (s3 4)) 5 (s3 5)))))] H := kx_cP kz_8_7 hP
        have hD : va_D A [(o, .inr (0, [.int (nI th), .int (nI cn), .ref a0, .ref a1, .ref a2, .ref a3, .ref a4, .ref a5, .int (nI mn), .ref a6, .ref a7, .int (nI ps), .int (nI bk), .ref a8, .ref a9, .ref a10, .ref a11, .ref a12, .ref a13, .ref a14, .ref a15, .int (nI i), .int lb, .int (nI lc), .long lo, .int (nI el), .int (nI ec), .long eo, .int eb, .long ed, .int (nI mp), .int (nI ml), .long md, .long mo, .int mb, .ref a16, .ref a17])), (a0, .inl (cI, 4097, .inl kd)), (a1, .inl (cI, 4097, .inl wd)), (a2, .inl (cI, 4097, .inl sr)), (a3, .inl (cI, 4097, .inl od)), (a4, .inl (cI, 4097, .inl sk)), (a14, .inl (cJ, 6, .inr (.inl s3))), (a15, .inl (cJ, 6, .inr (.inl (vp_updL (vp_updL (vp_updL (vp_updL (vp_updL (vp_updL ke 0 (s3 0)) 1 (s3 1)) 2 (s3 2)) 3 (s3 3)) 4 (s3 4)) 5 (s3 5)))))] := kx_cD kz_8_7 hD
        refine lv_iinc (v := nI 6) (lv' := [(2, .int (nI 6)), (0, .ref o), (1, .int (nI i))]) hx hb dd_M_take_123 hl (k := 0) rfl (nI_add 5 1) (by decide) rfl (fun ls hl => ?_)
        refine lv_goto (tgt := 105) hx hb dd_M_take_126 (by decide) ?_
        refine lv_iload_n hx hb dd_M_take_105 rfl (lv_at hl 0 rfl) ?_
        refine lv_bipush (v := nI 6) hx hb dd_M_take_106 (by decide) ?_
        refine lv_icmp_ge (tgt := 129) hx hb dd_M_take_108 (by decide) (fun _ => ?_) (fun h => absurd (by decide +kernel) h)
        rw [hQ]
        exact kx_vret hx hb hr hlocks hK hN hS dd_M_take_129 (s3, vp_updL (vp_updL (vp_updL (vp_updL (vp_updL (vp_updL ke 0 (s3 0)) 1 (s3 1)) 2 (s3 2)) 3 (s3 3)) 4 (s3 4)) 5 (s3 5), i) hP hD (⟨by first | exact pm_take2 c37 (hog c37).1 hog3 e_v28 e_s1 e_s2 e_s3 | exact pm_take1 c37 e_v28 e_s1, by first | (rw [if_pos (Or.inl c85)]; exact ⟨rfl, pm_6 rfl rfl rfl rfl rfl rfl⟩) | (rw [if_pos (Or.inr c95)]; exact ⟨rfl, pm_6 rfl rfl rfl rfl rfl rfl⟩) | (rw [if_neg (fun q => q.elim c85 c95)]; exact ⟨rfl, rfl⟩)⟩)
      · skip
        refine lv_aload_n hx hb dd_M_take_88 rfl (lv_at hl 0 rfl) ?_
        refine va_get (D := D) (ci := 0) (v := .ref a0) (C := rr_M) (T := tt_M) (N := 37) hx hb hts hin0 hown hK hP 0 kg_8_0 rfl 2 (by decide) lk2 (fun _ h9 => h9) rfl dd_M_take_89 ?_
        refine lv_iload_n hx hb dd_M_take_92 rfl (lv_at hl 1 rfl) ?_
        refine kx_iald (q0 := 1) (t0 := 0) hx hb dd_M_take_93 hK hP kg_8_1 rfl (by omega) (by omega) ?_
        refine lv_iconst (v := nI 4) hx hb dd_M_take_94 (by decide) ?_
        refine lv_icmp_ne (tgt := 129) hx hb dd_M_take_95 (by decide) (fun c95 => ?_) (fun c95 => ?_)
        · skip
          rw [hQ]
          exact kx_vret hx hb hr hlocks hK hN hS dd_M_take_129 (s3, ke, kf) hP hD (⟨by first | exact pm_take2 c37 (hog c37).1 hog3 e_v28 e_s1 e_s2 e_s3 | exact pm_take1 c37 e_v28 e_s1, by first | (rw [if_pos (Or.inl c85)]; exact ⟨rfl, pm_6 rfl rfl rfl rfl rfl rfl⟩) | (rw [if_pos (Or.inr c95)]; exact ⟨rfl, pm_6 rfl rfl rfl rfl rfl rfl⟩) | (rw [if_neg (fun q => q.elim c85 c95)]; exact ⟨rfl, rfl⟩)⟩)
        · skip
          refine lv_aload_n hx hb dd_M_take_98 rfl (lv_at hl 0 rfl) ?_
          refine lv_iload_n hx hb dd_M_take_99 rfl (lv_at hl 1 rfl) ?_
          refine va_put (D := D) (ci := 0) (v := .int (nI i)) (ty := .int) (C := rr_M) (T := tt_M) (N := 37) hx hb hts hin0 ft_M ft_M_ok nn_M hown hK hP hD hS 0 kg_8_0 rfl 21 (by decide) lk4 (fun _ h9 => h9) rfl (by decide +kernel) rfl rfl (Nat.le_of_ble_eq_true rfl) dd_M_take_100 (fun H locs hP hD hS => ?_)
          have hP : va_P D vwCl [(o, .inr (0, [.int (nI th), .int (nI cn), .ref a0, .ref a1, .ref a2, .ref a3, .ref a4, .ref a5, .int (nI mn), .ref a6, .ref a7, .int (nI ps), .int (nI bk), .ref a8, .ref a9, .ref a10, .ref a11, .ref a12, .ref a13, .ref a14, .ref a15, .int (nI i), .int lb, .int (nI lc), .long lo, .int (nI el), .int (nI ec), .long eo, .int eb, .long ed, .int (nI mp), .int (nI ml), .long md, .long mo, .int mb, .ref a16, .ref a17])), (a0, .inl (cI, 4097, .inl kd)), (a1, .inl (cI, 4097, .inl wd)), (a2, .inl (cI, 4097, .inl sr)), (a3, .inl (cI, 4097, .inl od)), (a4, .inl (cI, 4097, .inl sk)), (a14, .inl (cJ, 6, .inr (.inl s3))), (a15, .inl (cJ, 6, .inr (.inl ke)))] H := kx_cP kz_8_0 hP
          have hD : va_D A [(o, .inr (0, [.int (nI th), .int (nI cn), .ref a0, .ref a1, .ref a2, .ref a3, .ref a4, .ref a5, .int (nI mn), .ref a6, .ref a7, .int (nI ps), .int (nI bk), .ref a8, .ref a9, .ref a10, .ref a11, .ref a12, .ref a13, .ref a14, .ref a15, .int (nI i), .int lb, .int (nI lc), .long lo, .int (nI el), .int (nI ec), .long eo, .int eb, .long ed, .int (nI mp), .int (nI ml), .long md, .long mo, .int mb, .ref a16, .ref a17])), (a0, .inl (cI, 4097, .inl kd)), (a1, .inl (cI, 4097, .inl wd)), (a2, .inl (cI, 4097, .inl sr)), (a3, .inl (cI, 4097, .inl od)), (a4, .inl (cI, 4097, .inl sk)), (a14, .inl (cJ, 6, .inr (.inl s3))), (a15, .inl (cJ, 6, .inr (.inl ke)))] := kx_cD kz_8_0 hD
          refine lv_iconst (v := nI 0) hx hb dd_M_take_103 (by decide) ?_
          refine lv_istore_n (lv' := [(2, .int (nI 0)), (0, .ref o), (1, .int (nI i))]) hx hb dd_M_take_104 rfl hl (by decide) rfl (fun ls hl => ?_)
          refine lv_iload_n hx hb dd_M_take_105 rfl (lv_at hl 0 rfl) ?_
          refine lv_bipush (v := nI 6) hx hb dd_M_take_106 (by decide) ?_
          refine lv_icmp_ge (tgt := 129) hx hb dd_M_take_108 (by decide) (fun h => absurd h (by decide +kernel)) (fun _ => ?_)
          refine lv_aload_n hx hb dd_M_take_111 rfl (lv_at hl 1 rfl) ?_
          refine va_get (D := D) (ci := 0) (v := .ref a15) (C := rr_M) (T := tt_M) (N := 37) hx hb hts hin0 hown hK hP 0 kg_8_0 rfl 20 (by decide) lk5 (fun _ h9 => h9) rfl dd_M_take_112 ?_
          refine lv_iload_n hx hb dd_M_take_115 rfl (lv_at hl 0 rfl) ?_
          refine lv_aload_n hx hb dd_M_take_116 rfl (lv_at hl 1 rfl) ?_
          refine va_get (D := D) (ci := 0) (v := .ref a14) (C := rr_M) (T := tt_M) (N := 37) hx hb hts hin0 hown hK hP 0 kg_8_0 rfl 19 (by decide) lk0 (fun _ h9 => h9) rfl dd_M_take_117 ?_
          refine lv_iload_n hx hb dd_M_take_120 rfl (lv_at hl 0 rfl) ?_
          refine kx_lald (q0 := 6) (t0 := 1) hx hb dd_M_take_121 hK hP kg_8_6 rfl (by omega) (by omega) ?_
          refine kx_last (q0 := 7) (t0 := 1) hx hb dd_M_take_122 hK hP hD hS kg_8_7 rfl (by omega) (by omega) (fun H locs hP hD hS => ?_)
          have hP : va_P D vwCl [(o, .inr (0, [.int (nI th), .int (nI cn), .ref a0, .ref a1, .ref a2, .ref a3, .ref a4, .ref a5, .int (nI mn), .ref a6, .ref a7, .int (nI ps), .int (nI bk), .ref a8, .ref a9, .ref a10, .ref a11, .ref a12, .ref a13, .ref a14, .ref a15, .int (nI i), .int lb, .int (nI lc), .long lo, .int (nI el), .int (nI ec), .long eo, .int eb, .long ed, .int (nI mp), .int (nI ml), .long md, .long mo, .int mb, .ref a16, .ref a17])), (a0, .inl (cI, 4097, .inl kd)), (a1, .inl (cI, 4097, .inl wd)), (a2, .inl (cI, 4097, .inl sr)), (a3, .inl (cI, 4097, .inl od)), (a4, .inl (cI, 4097, .inl sk)), (a14, .inl (cJ, 6, .inr (.inl s3))), (a15, .inl (cJ, 6, .inr (.inl (vp_updL ke 0 (s3 0)))))] H := kx_cP kz_8_7 hP
          have hD : va_D A [(o, .inr (0, [.int (nI th), .int (nI cn), .ref a0, .ref a1, .ref a2, .ref a3, .ref a4, .ref a5, .int (nI mn), .ref a6, .ref a7, .int (nI ps), .int (nI bk), .ref a8, .ref a9, .ref a10, .ref a11, .ref a12, .ref a13, .ref a14, .ref a15, .int (nI i), .int lb, .int (nI lc), .long lo, .int (nI el), .int (nI ec), .long eo, .int eb, .long ed, .int (nI mp), .int (nI ml), .long md, .long mo, .int mb, .ref a16, .ref a17])), (a0, .inl (cI, 4097, .inl kd)), (a1, .inl (cI, 4097, .inl wd)), (a2, .inl (cI, 4097, .inl sr)), (a3, .inl (cI, 4097, .inl od)), (a4, .inl (cI, 4097, .inl sk)), (a14, .inl (cJ, 6, .inr (.inl s3))), (a15, .inl (cJ, 6, .inr (.inl (vp_updL ke 0 (s3 0)))))] := kx_cD kz_8_7 hD
          refine lv_iinc (v := nI 1) (lv' := [(2, .int (nI 1)), (0, .ref o), (1, .int (nI i))]) hx hb dd_M_take_123 hl (k := 0) rfl (nI_add 0 1) (by decide) rfl (fun ls hl => ?_)
          refine lv_goto (tgt := 105) hx hb dd_M_take_126 (by decide) ?_
          refine lv_iload_n hx hb dd_M_take_105 rfl (lv_at hl 0 rfl) ?_
          refine lv_bipush (v := nI 6) hx hb dd_M_take_106 (by decide) ?_
          refine lv_icmp_ge (tgt := 129) hx hb dd_M_take_108 (by decide) (fun h => absurd h (by decide +kernel)) (fun _ => ?_)
          refine lv_aload_n hx hb dd_M_take_111 rfl (lv_at hl 1 rfl) ?_
          refine va_get (D := D) (ci := 0) (v := .ref a15) (C := rr_M) (T := tt_M) (N := 37) hx hb hts hin0 hown hK hP 0 kg_8_0 rfl 20 (by decide) lk5 (fun _ h9 => h9) rfl dd_M_take_112 ?_
          refine lv_iload_n hx hb dd_M_take_115 rfl (lv_at hl 0 rfl) ?_
          refine lv_aload_n hx hb dd_M_take_116 rfl (lv_at hl 1 rfl) ?_
          refine va_get (D := D) (ci := 0) (v := .ref a14) (C := rr_M) (T := tt_M) (N := 37) hx hb hts hin0 hown hK hP 0 kg_8_0 rfl 19 (by decide) lk0 (fun _ h9 => h9) rfl dd_M_take_117 ?_
          refine lv_iload_n hx hb dd_M_take_120 rfl (lv_at hl 0 rfl) ?_
          refine kx_lald (q0 := 6) (t0 := 1) hx hb dd_M_take_121 hK hP kg_8_6 rfl (by omega) (by omega) ?_
          refine kx_last (q0 := 7) (t0 := 1) hx hb dd_M_take_122 hK hP hD hS kg_8_7 rfl (by omega) (by omega) (fun H locs hP hD hS => ?_)
          have hP : va_P D vwCl [(o, .inr (0, [.int (nI th), .int (nI cn), .ref a0, .ref a1, .ref a2, .ref a3, .ref a4, .ref a5, .int (nI mn), .ref a6, .ref a7, .int (nI ps), .int (nI bk), .ref a8, .ref a9, .ref a10, .ref a11, .ref a12, .ref a13, .ref a14, .ref a15, .int (nI i), .int lb, .int (nI lc), .long lo, .int (nI el), .int (nI ec), .long eo, .int eb, .long ed, .int (nI mp), .int (nI ml), .long md, .long mo, .int mb, .ref a16, .ref a17])), (a0, .inl (cI, 4097, .inl kd)), (a1, .inl (cI, 4097, .inl wd)), (a2, .inl (cI, 4097, .inl sr)), (a3, .inl (cI, 4097, .inl od)), (a4, .inl (cI, 4097, .inl sk)), (a14, .inl (cJ, 6, .inr (.inl s3))), (a15, .inl (cJ, 6, .inr (.inl (vp_updL (vp_updL ke 0 (s3 0)) 1 (s3 1)))))] H := kx_cP kz_8_7 hP
          have hD : va_D A [(o, .inr (0, [.int (nI th), .int (nI cn), .ref a0, .ref a1, .ref a2, .ref a3, .ref a4, .ref a5, .int (nI mn), .ref a6, .ref a7, .int (nI ps), .int (nI bk), .ref a8, .ref a9, .ref a10, .ref a11, .ref a12, .ref a13, .ref a14, .ref a15, .int (nI i), .int lb, .int (nI lc), .long lo, .int (nI el), .int (nI ec), .long eo, .int eb, .long ed, .int (nI mp), .int (nI ml), .long md, .long mo, .int mb, .ref a16, .ref a17])), (a0, .inl (cI, 4097, .inl kd)), (a1, .inl (cI, 4097, .inl wd)), (a2, .inl (cI, 4097, .inl sr)), (a3, .inl (cI, 4097, .inl od)), (a4, .inl (cI, 4097, .inl sk)), (a14, .inl (cJ, 6, .inr (.inl s3))), (a15, .inl (cJ, 6, .inr (.inl (vp_updL (vp_updL ke 0 (s3 0)) 1 (s3 1)))))] := kx_cD kz_8_7 hD
          refine lv_iinc (v := nI 2) (lv' := [(2, .int (nI 2)), (0, .ref o), (1, .int (nI i))]) hx hb dd_M_take_123 hl (k := 0) rfl (nI_add 1 1) (by decide) rfl (fun ls hl => ?_)
          refine lv_goto (tgt := 105) hx hb dd_M_take_126 (by decide) ?_
          refine lv_iload_n hx hb dd_M_take_105 rfl (lv_at hl 0 rfl) ?_
          refine lv_bipush (v := nI 6) hx hb dd_M_take_106 (by decide) ?_
          refine lv_icmp_ge (tgt := 129) hx hb dd_M_take_108 (by decide) (fun h => absurd h (by decide +kernel)) (fun _ => ?_)
          refine lv_aload_n hx hb dd_M_take_111 rfl (lv_at hl 1 rfl) ?_
          refine va_get (D := D) (ci := 0) (v := .ref a15) (C := rr_M) (T := tt_M) (N := 37) hx hb hts hin0 hown hK hP 0 kg_8_0 rfl 20 (by decide) lk5 (fun _ h9 => h9) rfl dd_M_take_112 ?_
          refine lv_iload_n hx hb dd_M_take_115 rfl (lv_at hl 0 rfl) ?_
          refine lv_aload_n hx hb dd_M_take_116 rfl (lv_at hl 1 rfl) ?_
          refine va_get (D := D) (ci := 0) (v := .ref a14) (C := rr_M) (T := tt_M) (N := 37) hx hb hts hin0 hown hK hP 0 kg_8_0 rfl 19 (by decide) lk0 (fun _ h9 => h9) rfl dd_M_take_117 ?_
          refine lv_iload_n hx hb dd_M_take_120 rfl (lv_at hl 0 rfl) ?_
          refine kx_lald (q0 := 6) (t0 := 1) hx hb dd_M_take_121 hK hP kg_8_6 rfl (by omega) (by omega) ?_
          refine kx_last (q0 := 7) (t0 := 1) hx hb dd_M_take_122 hK hP hD hS kg_8_7 rfl (by omega) (by omega) (fun H locs hP hD hS => ?_)
          have hP : va_P D vwCl [(o, .inr (0, [.int (nI th), .int (nI cn), .ref a0, .ref a1, .ref a2, .ref a3, .ref a4, .ref a5, .int (nI mn), .ref a6, .ref a7, .int (nI ps), .int (nI bk), .ref a8, .ref a9, .ref a10, .ref a11, .ref a12, .ref a13, .ref a14, .ref a15, .int (nI i), .int lb, .int (nI lc), .long lo, .int (nI el), .int (nI ec), .long eo, .int eb, .long ed, .int (nI mp), .int (nI ml), .long md, .long mo, .int mb, .ref a16, .ref a17])), (a0, .inl (cI, 4097, .inl kd)), (a1, .inl (cI, 4097, .inl wd)), (a2, .inl (cI, 4097, .inl sr)), (a3, .inl (cI, 4097, .inl od)), (a4, .inl (cI, 4097, .inl sk)), (a14, .inl (cJ, 6, .inr (.inl s3))), (a15, .inl (cJ, 6, .inr (.inl (vp_updL (vp_updL (vp_updL ke 0 (s3 0)) 1 (s3 1)) 2 (s3 2)))))] H := kx_cP kz_8_7 hP
          have hD : va_D A [(o, .inr (0, [.int (nI th), .int (nI cn), .ref a0, .ref a1, .ref a2, .ref a3, .ref a4, .ref a5, .int (nI mn), .ref a6, .ref a7, .int (nI ps), .int (nI bk), .ref a8, .ref a9, .ref a10, .ref a11, .ref a12, .ref a13, .ref a14, .ref a15, .int (nI i), .int lb, .int (nI lc), .long lo, .int (nI el), .int (nI ec), .long eo, .int eb, .long ed, .int (nI mp), .int (nI ml), .long md, .long mo, .int mb, .ref a16, .ref a17])), (a0, .inl (cI, 4097, .inl kd)), (a1, .inl (cI, 4097, .inl wd)), (a2, .inl (cI, 4097, .inl sr)), (a3, .inl (cI, 4097, .inl od)), (a4, .inl (cI, 4097, .inl sk)), (a14, .inl (cJ, 6, .inr (.inl s3))), (a15, .inl (cJ, 6, .inr (.inl (vp_updL (vp_updL (vp_updL ke 0 (s3 0)) 1 (s3 1)) 2 (s3 2)))))] := kx_cD kz_8_7 hD
          refine lv_iinc (v := nI 3) (lv' := [(2, .int (nI 3)), (0, .ref o), (1, .int (nI i))]) hx hb dd_M_take_123 hl (k := 0) rfl (nI_add 2 1) (by decide) rfl (fun ls hl => ?_)
          refine lv_goto (tgt := 105) hx hb dd_M_take_126 (by decide) ?_
          refine lv_iload_n hx hb dd_M_take_105 rfl (lv_at hl 0 rfl) ?_
          refine lv_bipush (v := nI 6) hx hb dd_M_take_106 (by decide) ?_
          refine lv_icmp_ge (tgt := 129) hx hb dd_M_take_108 (by decide) (fun h => absurd h (by decide +kernel)) (fun _ => ?_)
          refine lv_aload_n hx hb dd_M_take_111 rfl (lv_at hl 1 rfl) ?_
          refine va_get (D := D) (ci := 0) (v := .ref a15) (C := rr_M) (T := tt_M) (N := 37) hx hb hts hin0 hown hK hP 0 kg_8_0 rfl 20 (by decide) lk5 (fun _ h9 => h9) rfl dd_M_take_112 ?_
          refine lv_iload_n hx hb dd_M_take_115 rfl (lv_at hl 0 rfl) ?_
          refine lv_aload_n hx hb dd_M_take_116 rfl (lv_at hl 1 rfl) ?_
          refine va_get (D := D) (ci := 0) (v := .ref a14) (C := rr_M) (T := tt_M) (N := 37) hx hb hts hin0 hown hK hP 0 kg_8_0 rfl 19 (by decide) lk0 (fun _ h9 => h9) rfl dd_M_take_117 ?_
          refine lv_iload_n hx hb dd_M_take_120 rfl (lv_at hl 0 rfl) ?_
          refine kx_lald (q0 := 6) (t0 := 1) hx hb dd_M_take_121 hK hP kg_8_6 rfl (by omega) (by omega) ?_
          refine kx_last (q0 := 7) (t0 := 1) hx hb dd_M_take_122 hK hP hD hS kg_8_7 rfl (by omega) (by omega) (fun H locs hP hD hS => ?_)
          have hP : va_P D vwCl [(o, .inr (0, [.int (nI th), .int (nI cn), .ref a0, .ref a1, .ref a2, .ref a3, .ref a4, .ref a5, .int (nI mn), .ref a6, .ref a7, .int (nI ps), .int (nI bk), .ref a8, .ref a9, .ref a10, .ref a11, .ref a12, .ref a13, .ref a14, .ref a15, .int (nI i), .int lb, .int (nI lc), .long lo, .int (nI el), .int (nI ec), .long eo, .int eb, .long ed, .int (nI mp), .int (nI ml), .long md, .long mo, .int mb, .ref a16, .ref a17])), (a0, .inl (cI, 4097, .inl kd)), (a1, .inl (cI, 4097, .inl wd)), (a2, .inl (cI, 4097, .inl sr)), (a3, .inl (cI, 4097, .inl od)), (a4, .inl (cI, 4097, .inl sk)), (a14, .inl (cJ, 6, .inr (.inl s3))), (a15, .inl (cJ, 6, .inr (.inl (vp_updL (vp_updL (vp_updL (vp_updL ke 0 (s3 0)) 1 (s3 1)) 2 (s3 2)) 3 (s3 3)))))] H := kx_cP kz_8_7 hP
          have hD : va_D A [(o, .inr (0, [.int (nI th), .int (nI cn), .ref a0, .ref a1, .ref a2, .ref a3, .ref a4, .ref a5, .int (nI mn), .ref a6, .ref a7, .int (nI ps), .int (nI bk), .ref a8, .ref a9, .ref a10, .ref a11, .ref a12, .ref a13, .ref a14, .ref a15, .int (nI i), .int lb, .int (nI lc), .long lo, .int (nI el), .int (nI ec), .long eo, .int eb, .long ed, .int (nI mp), .int (nI ml), .long md, .long mo, .int mb, .ref a16, .ref a17])), (a0, .inl (cI, 4097, .inl kd)), (a1, .inl (cI, 4097, .inl wd)), (a2, .inl (cI, 4097, .inl sr)), (a3, .inl (cI, 4097, .inl od)), (a4, .inl (cI, 4097, .inl sk)), (a14, .inl (cJ, 6, .inr (.inl s3))), (a15, .inl (cJ, 6, .inr (.inl (vp_updL (vp_updL (vp_updL (vp_updL ke 0 (s3 0)) 1 (s3 1)) 2 (s3 2)) 3 (s3 3)))))] := kx_cD kz_8_7 hD
          refine lv_iinc (v := nI 4) (lv' := [(2, .int (nI 4)), (0, .ref o), (1, .int (nI i))]) hx hb dd_M_take_123 hl (k := 0) rfl (nI_add 3 1) (by decide) rfl (fun ls hl => ?_)
          refine lv_goto (tgt := 105) hx hb dd_M_take_126 (by decide) ?_
          refine lv_iload_n hx hb dd_M_take_105 rfl (lv_at hl 0 rfl) ?_
          refine lv_bipush (v := nI 6) hx hb dd_M_take_106 (by decide) ?_
          refine lv_icmp_ge (tgt := 129) hx hb dd_M_take_108 (by decide) (fun h => absurd h (by decide +kernel)) (fun _ => ?_)
          refine lv_aload_n hx hb dd_M_take_111 rfl (lv_at hl 1 rfl) ?_
          refine va_get (D := D) (ci := 0) (v := .ref a15) (C := rr_M) (T := tt_M) (N := 37) hx hb hts hin0 hown hK hP 0 kg_8_0 rfl 20 (by decide) lk5 (fun _ h9 => h9) rfl dd_M_take_112 ?_
          refine lv_iload_n hx hb dd_M_take_115 rfl (lv_at hl 0 rfl) ?_
          refine lv_aload_n hx hb dd_M_take_116 rfl (lv_at hl 1 rfl) ?_
          refine va_get (D := D) (ci := 0) (v := .ref a14) (C := rr_M) (T := tt_M) (N := 37) hx hb hts hin0 hown hK hP 0 kg_8_0 rfl 19 (by decide) lk0 (fun _ h9 => h9) rfl dd_M_take_117 ?_
          refine lv_iload_n hx hb dd_M_take_120 rfl (lv_at hl 0 rfl) ?_
          refine kx_lald (q0 := 6) (t0 := 1) hx hb dd_M_take_121 hK hP kg_8_6 rfl (by omega) (by omega) ?_
          refine kx_last (q0 := 7) (t0 := 1) hx hb dd_M_take_122 hK hP hD hS kg_8_7 rfl (by omega) (by omega) (fun H locs hP hD hS => ?_)
          have hP : va_P D vwCl [(o, .inr (0, [.int (nI th), .int (nI cn), .ref a0, .ref a1, .ref a2, .ref a3, .ref a4, .ref a5, .int (nI mn), .ref a6, .ref a7, .int (nI ps), .int (nI bk), .ref a8, .ref a9, .ref a10, .ref a11, .ref a12, .ref a13, .ref a14, .ref a15, .int (nI i), .int lb, .int (nI lc), .long lo, .int (nI el), .int (nI ec), .long eo, .int eb, .long ed, .int (nI mp), .int (nI ml), .long md, .long mo, .int mb, .ref a16, .ref a17])), (a0, .inl (cI, 4097, .inl kd)), (a1, .inl (cI, 4097, .inl wd)), (a2, .inl (cI, 4097, .inl sr)), (a3, .inl (cI, 4097, .inl od)), (a4, .inl (cI, 4097, .inl sk)), (a14, .inl (cJ, 6, .inr (.inl s3))), (a15, .inl (cJ, 6, .inr (.inl (vp_updL (vp_updL (vp_updL (vp_updL (vp_updL ke 0 (s3 0)) 1 (s3 1)) 2 (s3 2)) 3 (s3 3)) 4 (s3 4)))))] H := kx_cP kz_8_7 hP
          have hD : va_D A [(o, .inr (0, [.int (nI th), .int (nI cn), .ref a0, .ref a1, .ref a2, .ref a3, .ref a4, .ref a5, .int (nI mn), .ref a6, .ref a7, .int (nI ps), .int (nI bk), .ref a8, .ref a9, .ref a10, .ref a11, .ref a12, .ref a13, .ref a14, .ref a15, .int (nI i), .int lb, .int (nI lc), .long lo, .int (nI el), .int (nI ec), .long eo, .int eb, .long ed, .int (nI mp), .int (nI ml), .long md, .long mo, .int mb, .ref a16, .ref a17])), (a0, .inl (cI, 4097, .inl kd)), (a1, .inl (cI, 4097, .inl wd)), (a2, .inl (cI, 4097, .inl sr)), (a3, .inl (cI, 4097, .inl od)), (a4, .inl (cI, 4097, .inl sk)), (a14, .inl (cJ, 6, .inr (.inl s3))), (a15, .inl (cJ, 6, .inr (.inl (vp_updL (vp_updL (vp_updL (vp_updL (vp_updL ke 0 (s3 0)) 1 (s3 1)) 2 (s3 2)) 3 (s3 3)) 4 (s3 4)))))] := kx_cD kz_8_7 hD
          refine lv_iinc (v := nI 5) (lv' := [(2, .int (nI 5)), (0, .ref o), (1, .int (nI i))]) hx hb dd_M_take_123 hl (k := 0) rfl (nI_add 4 1) (by decide) rfl (fun ls hl => ?_)
          refine lv_goto (tgt := 105) hx hb dd_M_take_126 (by decide) ?_
          refine lv_iload_n hx hb dd_M_take_105 rfl (lv_at hl 0 rfl) ?_
          refine lv_bipush (v := nI 6) hx hb dd_M_take_106 (by decide) ?_
          refine lv_icmp_ge (tgt := 129) hx hb dd_M_take_108 (by decide) (fun h => absurd h (by decide +kernel)) (fun _ => ?_)
          refine lv_aload_n hx hb dd_M_take_111 rfl (lv_at hl 1 rfl) ?_
          refine va_get (D := D) (ci := 0) (v := .ref a15) (C := rr_M) (T := tt_M) (N := 37) hx hb hts hin0 hown hK hP 0 kg_8_0 rfl 20 (by decide) lk5 (fun _ h9 => h9) rfl dd_M_take_112 ?_
          refine lv_iload_n hx hb dd_M_take_115 rfl (lv_at hl 0 rfl) ?_
          refine lv_aload_n hx hb dd_M_take_116 rfl (lv_at hl 1 rfl) ?_
          refine va_get (D := D) (ci := 0) (v := .ref a14) (C := rr_M) (T := tt_M) (N := 37) hx hb hts hin0 hown hK hP 0 kg_8_0 rfl 19 (by decide) lk0 (fun _ h9 => h9) rfl dd_M_take_117 ?_
          refine lv_iload_n hx hb dd_M_take_120 rfl (lv_at hl 0 rfl) ?_
          refine kx_lald (q0 := 6) (t0 := 1) hx hb dd_M_take_121 hK hP kg_8_6 rfl (by omega) (by omega) ?_
          refine kx_last (q0 := 7) (t0 := 1) hx hb dd_M_take_122 hK hP hD hS kg_8_7 rfl (by omega) (by omega) (fun H locs hP hD hS => ?_)
          have hP : va_P D vwCl [(o, .inr (0, [.int (nI th), .int (nI cn), .ref a0, .ref a1, .ref a2, .ref a3, .ref a4, .ref a5, .int (nI mn), .ref a6, .ref a7, .int (nI ps), .int (nI bk), .ref a8, .ref a9, .ref a10, .ref a11, .ref a12, .ref a13, .ref a14, .ref a15, .int (nI i), .int lb, .int (nI lc), .long lo, .int (nI el), .int (nI ec), .long eo, .int eb, .long ed, .int (nI mp), .int (nI ml), .long md, .long mo, .int mb, .ref a16, .ref a17])), (a0, .inl (cI, 4097, .inl kd)), (a1, .inl (cI, 4097, .inl wd)), (a2, .inl (cI, 4097, .inl sr)), (a3, .inl (cI, 4097, .inl od)), (a4, .inl (cI, 4097, .inl sk)), (a14, .inl (cJ, 6, .inr (.inl s3))), (a15, .inl (cJ, 6, .inr (.inl (vp_updL (vp_updL (vp_updL (vp_updL (vp_updL (vp_updL ke 0 (s3 0)) 1 (s3 1)) 2 (s3 2)) 3 (s3 3)) 4 (s3 4)) 5 (s3 5)))))] H := kx_cP kz_8_7 hP
          have hD : va_D A [(o, .inr (0, [.int (nI th), .int (nI cn), .ref a0, .ref a1, .ref a2, .ref a3, .ref a4, .ref a5, .int (nI mn), .ref a6, .ref a7, .int (nI ps), .int (nI bk), .ref a8, .ref a9, .ref a10, .ref a11, .ref a12, .ref a13, .ref a14, .ref a15, .int (nI i), .int lb, .int (nI lc), .long lo, .int (nI el), .int (nI ec), .long eo, .int eb, .long ed, .int (nI mp), .int (nI ml), .long md, .long mo, .int mb, .ref a16, .ref a17])), (a0, .inl (cI, 4097, .inl kd)), (a1, .inl (cI, 4097, .inl wd)), (a2, .inl (cI, 4097, .inl sr)), (a3, .inl (cI, 4097, .inl od)), (a4, .inl (cI, 4097, .inl sk)), (a14, .inl (cJ, 6, .inr (.inl s3))), (a15, .inl (cJ, 6, .inr (.inl (vp_updL (vp_updL (vp_updL (vp_updL (vp_updL (vp_updL ke 0 (s3 0)) 1 (s3 1)) 2 (s3 2)) 3 (s3 3)) 4 (s3 4)) 5 (s3 5)))))] := kx_cD kz_8_7 hD
          refine lv_iinc (v := nI 6) (lv' := [(2, .int (nI 6)), (0, .ref o), (1, .int (nI i))]) hx hb dd_M_take_123 hl (k := 0) rfl (nI_add 5 1) (by decide) rfl (fun ls hl => ?_)
          refine lv_goto (tgt := 105) hx hb dd_M_take_126 (by decide) ?_
          refine lv_iload_n hx hb dd_M_take_105 rfl (lv_at hl 0 rfl) ?_
          refine lv_bipush (v := nI 6) hx hb dd_M_take_106 (by decide) ?_
          refine lv_icmp_ge (tgt := 129) hx hb dd_M_take_108 (by decide) (fun _ => ?_) (fun h => absurd (by decide +kernel) h)
          rw [hQ]
          exact kx_vret hx hb hr hlocks hK hN hS dd_M_take_129 (s3, vp_updL (vp_updL (vp_updL (vp_updL (vp_updL (vp_updL ke 0 (s3 0)) 1 (s3 1)) 2 (s3 2)) 3 (s3 3)) 4 (s3 4)) 5 (s3 5), i) hP hD (⟨by first | exact pm_take2 c37 (hog c37).1 hog3 e_v28 e_s1 e_s2 e_s3 | exact pm_take1 c37 e_v28 e_s1, by first | (rw [if_pos (Or.inl c85)]; exact ⟨rfl, pm_6 rfl rfl rfl rfl rfl rfl⟩) | (rw [if_pos (Or.inr c95)]; exact ⟨rfl, pm_6 rfl rfl rfl rfl rfl rfl⟩) | (rw [if_neg (fun q => q.elim c85 c95)]; exact ⟨rfl, rfl⟩)⟩)
  · skip
    refine lv_icmp_ne (tgt := 21) hx hb dd_M_take_14 (by decide) (fun c14 => ?_) (fun c14 => ?_)
    · skip
      refine lv_aload_n hx hb dd_M_take_21 rfl (lv_at hl 0 rfl) ?_
      refine va_get (D := D) (ci := 0) (v := .ref a1) (C := rr_M) (T := tt_M) (N := 37) hx hb hts hin0 hown hK hP 0 kg_8_0 rfl 3 (by decide) lk3 (fun _ h9 => h9) rfl dd_M_take_22 ?_
      refine lv_iload_n hx hb dd_M_take_25 rfl (lv_at hl 1 rfl) ?_
      refine kx_iald (q0 := 2) (t0 := 0) hx hb dd_M_take_26 hK hP kg_8_2 rfl (by omega) (by omega) ?_
      refine lv_i2l hx hb dd_M_take_27 rfl ?_
      exact K28 _ H locs (by rw [if_neg c14]) hP hD hS
    · skip
      refine lv_lconst (v := 0) hx hb dd_M_take_17 (by decide) ?_
      refine lv_goto (tgt := 28) hx hb dd_M_take_18 (by decide) ?_
      exact K28 _ H locs (by rw [if_pos c14]) hP hD hS
