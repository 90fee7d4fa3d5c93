/-! how a line fits, what it costs, what is kept: in numbers -/
abbrev pm_hy (kd : Nat → Int32) (cn i : Nat) : Prop := i < cn ∧ kd i = nI 4
abbrev pm_wh (kd od : Nat → Int32) (i : Nat) : Prop := kd i = nI 4 ∧ od i &&& nI 2 = nI 2
def pm_S (P : Prop) [Decidable P] (su ke : Nat → Int64) : Nat → Int64 := fun k => if P then su k else ke k
def pm_mi (n mn : Nat) : Nat := if mn ≤ n then mn else n
theorem pm_mi_le {n mn : Nat} : pm_mi n mn ≤ mn := by unfold pm_mi; split <;> omega
def pm_ex (S : Nat → Int64) (si : Nat → Int32) (ad be : Int64) (mw : Int32) : Int64 := mw.toInt64 - (S 0 + (si 0).toInt64 + (si 4).toInt64 + ad + be)
def pm_pl (S : Nat → Int64) (si : Nat → Int32) : Int64 := S 1 + (if si 2 = 0 then (si 1).toInt64 else 0) + (if si 6 = 0 then (si 5).toInt64 else 0)
def pm_fa (S : Nat → Int64) (si : Nat → Int32) : Int64 := S 2 + S 3 + S 4 + (if si 2 ≤ 0 then 0 else (si 1).toInt64) + (if si 6 ≤ 0 then 0 else (si 5).toInt64)
def pm_le (S : Nat → Int64) (si : Nat → Int32) : Int64 := S 5 + (si 3).toInt64 + (si 7).toInt64
def pm_lb (ex pl fa le : Int64) : Int32 := if ex < 0 then (if -ex ≤ le then pm_bad (-ex) le else nI 10000) else (if fa ≤ 0 then pm_bad ex pl else nI 0)
def pm_lc (ex pl fa le : Int64) : Nat := if ex < 0 then (if -ex ≤ le then pm_c2 (pm_bad (-ex) le) else 3) else pm_c1 (if fa ≤ 0 then pm_bad ex pl else nI 0)
def pm_lo (ex le : Int64) : Int64 := if ex < 0 then (if -ex ≤ le then 0 else -ex - le) else 0
def pm_d0 (s : Int32) : Int64 := if nI 10000 ≤ s then 100000000 else (if (-10000) < s then s.toInt64 * s.toInt64 else 100000000)
def pm_d1 (p : Int32) : Int64 := if p ≤ 0 then (if p ≤ (-10000) then 0 else -p.toInt64 * p.toInt64) else p.toInt64 * p.toInt64
abbrev pm_adj (lc was : Nat) : Prop := nI 1 < nI lc - nI was ∨ ¬ nI was - nI lc ≤ nI 1
def pm_cost (ru : Nat → Int32) (lb p : Int32) (lc was : Nat) (hb hf en : Prop) [Decidable hb] [Decidable hf] [Decidable en] : Int64 := pm_d0 (ru 2 + lb) + pm_d1 p + (if hb then (if hf then (ru 6).toInt64 else 0) else 0) + (if en then (if hf then (ru 7).toInt64 else 0) else 0) + (if pm_adj lc was then (ru 5).toInt64 else 0)
theorem kn_and1 {n : Nat} (h : n < 2 ^ 31) : nI n &&& nI 1 = nI (n % 2) := pk_andN (by omega) (m := nI 1) 1 (by decide)
def pm_bk (x : Int64) (c : Nat) : Int32 := ((x >>> ((nI (16 * c)).toInt64 &&& 63)) &&& 65535).toInt32
def pm_bs (x : Int64) (c : Nat) (fr : Int32) : Int64 := (x &&& ((65535 <<< ((nI (16 * c)).toInt64 &&& 63)) ^^^ (-1))) ||| (fr.toInt64 <<< ((nI (16 * c)).toInt64 &&& 63))
/-- is what comes better than what is kept -/
abbrev pm_bt (ps : Nat) (o oo : Int64) (ab bb : Int32) (d dd : Int64) (fr wf : Int32) : Prop := if o = oo then (if ps = 3 then (if ab = bb then (if d = dd then ¬ wf ≤ fr else ¬ dd ≤ d) else ¬ bb ≤ ab) else (if d = dd then ¬ wf ≤ fr else ¬ dd ≤ d)) else ¬ oo ≤ o
abbrev pm_nw (z : Int32) (B : Prop) : Prop := z = 0 ∨ B
def pm_at (j n c : Nat) : Nat := 1608 * (n % 2) + 4 * j + c
def pm_pc (j n : Nat) : Nat := 402 * n + j
theorem kt_9_0_1_3 {c0 c1 c2 c3 c4 c5 c6 c7 c8 : Nat × va_E} : ([0, 1, 3] : List Nat).filterMap (fun i => ([c0, c1, c2, c3, c4, c5, c6, c7, c8] : va_W)[i]?) = ([c0, c1, c3] : va_W) := rfl
theorem ks_9_0_1_3 {c0 c1 c2 c3 c4 c5 c6 c7 c8 : Nat × va_E} : ([0, 1, 3] : List Nat).map (fun i => ([c0, c1, c2, c3, c4, c5, c6, c7, c8] : va_W)[i]?) = ([c0, c1, c3] : va_W).map some := rfl
theorem ks_9_2_4_5_6_7_8 {c0 c1 c2 c3 c4 c5 c6 c7 c8 : Nat × va_E} : ([2, 4, 5, 6, 7, 8] : List Nat).map (fun i => ([c0, c1, c2, c3, c4, c5, c6, c7, c8] : va_W)[i]?) = ([c2, c4, c5, c6, c7, c8] : va_W).map some := rfl
theorem kt_9_6_7_0_8_1_2_3_4_5 {c0 c1 c2 c3 c4 c5 c6 c7 c8 : Nat × va_E} : ([6, 7, 0, 8, 1, 2, 3, 4, 5] : List Nat).filterMap (fun i => ([c0, c1, c2, c3, c4, c5, c6, c7, c8] : va_W)[i]?) = ([c6, c7, c0, c8, c1, c2, c3, c4, c5] : va_W) := rfl
theorem ks_9_6_7_0_8_1_2_3_4_5 {c0 c1 c2 c3 c4 c5 c6 c7 c8 : Nat × va_E} : ([6, 7, 0, 8, 1, 2, 3, 4, 5] : List Nat).map (fun i => ([c0, c1, c2, c3, c4, c5, c6, c7, c8] : va_W)[i]?) = ([c6, c7, c0, c8, c1, c2, c3, c4, c5] : va_W).map some := rfl
theorem kg_9_0 {c0 c1 c2 c3 c4 c5 c6 c7 c8 : Nat × va_E} : ([c0, c1, c2, c3, c4, c5, c6, c7, c8] : va_W)[0]? = some c0 := rfl
theorem kg_9_8 {c0 c1 c2 c3 c4 c5 c6 c7 c8 : Nat × va_E} : ([c0, c1, c2, c3, c4, c5, c6, c7, c8] : va_W)[8]? = some c8 := rfl
theorem kg_9_7 {c0 c1 c2 c3 c4 c5 c6 c7 c8 : Nat × va_E} : ([c0, c1, c2, c3, c4, c5, c6, c7, c8] : va_W)[7]? = some c7 := rfl
theorem kg_9_6 {c0 c1 c2 c3 c4 c5 c6 c7 c8 : Nat × va_E} : ([c0, c1, c2, c3, c4, c5, c6, c7, c8] : va_W)[6]? = some c6 := rfl
theorem kt_9_0_1 {c0 c1 c2 c3 c4 c5 c6 c7 c8 : Nat × va_E} : ([0, 1] : List Nat).filterMap (fun i => ([c0, c1, c2, c3, c4, c5, c6, c7, c8] : va_W)[i]?) = ([c0, c1] : va_W) := rfl
theorem ks_9_0_1 {c0 c1 c2 c3 c4 c5 c6 c7 c8 : Nat × va_E} : ([0, 1] : List Nat).map (fun i => ([c0, c1, c2, c3, c4, c5, c6, c7, c8] : va_W)[i]?) = ([c0, c1] : va_W).map some := rfl
theorem ks_9_2_3_4_5_6_7_8 {c0 c1 c2 c3 c4 c5 c6 c7 c8 : Nat × va_E} : ([2, 3, 4, 5, 6, 7, 8] : List Nat).map (fun i => ([c0, c1, c2, c3, c4, c5, c6, c7, c8] : va_W)[i]?) = ([c2, c3, c4, c5, c6, c7, c8] : va_W).map some := rfl
theorem kt_9_7_8_0_1_2_3_4_5_6 {c0 c1 c2 c3 c4 c5 c6 c7 c8 : Nat × va_E} : ([7, 8, 0, 1, 2, 3, 4, 5, 6] : List Nat).filterMap (fun i => ([c0, c1, c2, c3, c4, c5, c6, c7, c8] : va_W)[i]?) = ([c7, c8, c0, c1, c2, c3, c4, c5, c6] : va_W) := rfl
theorem ks_9_7_8_0_1_2_3_4_5_6 {c0 c1 c2 c3 c4 c5 c6 c7 c8 : Nat × va_E} : ([7, 8, 0, 1, 2, 3, 4, 5, 6] : List Nat).map (fun i => ([c0, c1, c2, c3, c4, c5, c6, c7, c8] : va_W)[i]?) = ([c7, c8, c0, c1, c2, c3, c4, c5, c6] : va_W).map some := rfl
theorem kg_9_2 {c0 c1 c2 c3 c4 c5 c6 c7 c8 : Nat × va_E} : ([c0, c1, c2, c3, c4, c5, c6, c7, c8] : va_W)[2]? = some c2 := rfl
theorem kg_9_4 {c0 c1 c2 c3 c4 c5 c6 c7 c8 : Nat × va_E} : ([c0, c1, c2, c3, c4, c5, c6, c7, c8] : va_W)[4]? = some c4 := rfl
theorem kg_9_5 {c0 c1 c2 c3 c4 c5 c6 c7 c8 : Nat × va_E} : ([c0, c1, c2, c3, c4, c5, c6, c7, c8] : va_W)[5]? = some c5 := rfl
theorem kz_9_0 {c0 c1 c2 c3 c4 c5 c6 c7 c8 : Nat × va_E} {x : Nat × va_E} : ([c0, c1, c2, c3, c4, c5, c6, c7, c8] : va_W).set 0 x = [x, c1, c2, c3, c4, c5, c6, c7, c8] := rfl
theorem kt_9_ {c0 c1 c2 c3 c4 c5 c6 c7 c8 : Nat × va_E} : ([] : List Nat).filterMap (fun i => ([c0, c1, c2, c3, c4, c5, c6, c7, c8] : va_W)[i]?) = ([] : va_W) := rfl
theorem ks_9_ {c0 c1 c2 c3 c4 c5 c6 c7 c8 : Nat × va_E} : ([] : List Nat).map (fun i => ([c0, c1, c2, c3, c4, c5, c6, c7, c8] : va_W)[i]?) = ([] : va_W).map some := rfl
theorem ks_9_0_1_2_3_4_5_6_7_8 {c0 c1 c2 c3 c4 c5 c6 c7 c8 : Nat × va_E} : ([0, 1, 2, 3, 4, 5, 6, 7, 8] : List Nat).map (fun i => ([c0, c1, c2, c3, c4, c5, c6, c7, c8] : va_W)[i]?) = ([c0, c1, c2, c3, c4, c5, c6, c7, c8] : va_W).map some := rfl
theorem kt_5_0_1_2_3_4 {c0 c1 c2 c3 c4 : Nat × va_E} : ([0, 1, 2, 3, 4] : List Nat).filterMap (fun i => ([c0, c1, c2, c3, c4] : va_W)[i]?) = ([c0, c1, c2, c3, c4] : va_W) := rfl
theorem ks_5_0_1_2_3_4 {c0 c1 c2 c3 c4 : Nat × va_E} : ([0, 1, 2, 3, 4] : List Nat).map (fun i => ([c0, c1, c2, c3, c4] : va_W)[i]?) = ([c0, c1, c2, c3, c4] : va_W).map some := rfl
theorem ks_5_ {c0 c1 c2 c3 c4 : Nat × va_E} : ([] : List Nat).map (fun i => ([c0, c1, c2, c3, c4] : va_W)[i]?) = ([] : va_W).map some := rfl
theorem kt_5_0_1 {c0 c1 c2 c3 c4 : Nat × va_E} : ([0, 1] : List Nat).filterMap (fun i => ([c0, c1, c2, c3, c4] : va_W)[i]?) = ([c0, c1] : va_W) := rfl
theorem ks_5_0_1 {c0 c1 c2 c3 c4 : Nat × va_E} : ([0, 1] : List Nat).map (fun i => ([c0, c1, c2, c3, c4] : va_W)[i]?) = ([c0, c1] : va_W).map some := rfl
theorem ks_5_2_3_4 {c0 c1 c2 c3 c4 : Nat × va_E} : ([2, 3, 4] : List Nat).map (fun i => ([c0, c1, c2, c3, c4] : va_W)[i]?) = ([c2, c3, c4] : va_W).map some := rfl
theorem kt_5_3_4_0_1_2 {c0 c1 c2 c3 c4 : Nat × va_E} : ([3, 4, 0, 1, 2] : List Nat).filterMap (fun i => ([c0, c1, c2, c3, c4] : va_W)[i]?) = ([c3, c4, c0, c1, c2] : va_W) := rfl
theorem ks_5_3_4_0_1_2 {c0 c1 c2 c3 c4 : Nat × va_E} : ([3, 4, 0, 1, 2] : List Nat).map (fun i => ([c0, c1, c2, c3, c4] : va_W)[i]?) = ([c3, c4, c0, c1, c2] : va_W).map some := rfl
theorem kg_6_0 {c0 c1 c2 c3 c4 c5 : Nat × va_E} : ([c0, c1, c2, c3, c4, c5] : va_W)[0]? = some c0 := rfl
theorem kg_6_1 {c0 c1 c2 c3 c4 c5 : Nat × va_E} : ([c0, c1, c2, c3, c4, c5] : va_W)[1]? = some c1 := rfl
theorem kz_6_1 {c0 c1 c2 c3 c4 c5 : Nat × va_E} {x : Nat × va_E} : ([c0, c1, c2, c3, c4, c5] : va_W).set 1 x = [c0, x, c2, c3, c4, c5] := rfl
theorem kg_6_2 {c0 c1 c2 c3 c4 c5 : Nat × va_E} : ([c0, c1, c2, c3, c4, c5] : va_W)[2]? = some c2 := rfl
theorem kz_6_2 {c0 c1 c2 c3 c4 c5 : Nat × va_E} {x : Nat × va_E} : ([c0, c1, c2, c3, c4, c5] : va_W).set 2 x = [c0, c1, x, c3, c4, c5] := rfl
theorem kg_6_3 {c0 c1 c2 c3 c4 c5 : Nat × va_E} : ([c0, c1, c2, c3, c4, c5] : va_W)[3]? = some c3 := rfl
theorem kz_6_3 {c0 c1 c2 c3 c4 c5 : Nat × va_E} {x : Nat × va_E} : ([c0, c1, c2, c3, c4, c5] : va_W).set 3 x = [c0, c1, c2, x, c4, c5] := rfl
theorem kg_6_4 {c0 c1 c2 c3 c4 c5 : Nat × va_E} : ([c0, c1, c2, c3, c4, c5] : va_W)[4]? = some c4 := rfl
theorem kz_6_4 {c0 c1 c2 c3 c4 c5 : Nat × va_E} {x : Nat × va_E} : ([c0, c1, c2, c3, c4, c5] : va_W).set 4 x = [c0, c1, c2, c3, x, c5] := rfl
theorem kg_6_5 {c0 c1 c2 c3 c4 c5 : Nat × va_E} : ([c0, c1, c2, c3, c4, c5] : va_W)[5]? = some c5 := rfl
theorem kz_6_5 {c0 c1 c2 c3 c4 c5 : Nat × va_E} {x : Nat × va_E} : ([c0, c1, c2, c3, c4, c5] : va_W).set 5 x = [c0, c1, c2, c3, c4, x] := rfl
theorem kw_32 : Cond.selects rr_M yy_M_isWhole yy_M_isWhole ∈ kx_T := kx_in (i := 32) (by decide +kernel) (by decide +kernel)
theorem kw_33 : Cond.selects rr_M yy_M_isHyphenated yy_M_isHyphenated ∈ kx_T := kx_in (i := 33) (by decide +kernel) (by decide +kernel)
theorem kw_37 : Cond.selects rr_M yy_M_penaltyOf yy_M_penaltyOf ∈ kx_T := kx_in (i := 37) (by decide +kernel) (by decide +kernel)
theorem kw_806 : Cond.fieldLink rr_M (28) "LineDeskModel" "measures" "I" ∈ kx_T := kx_in (i := 806) (by decide +kernel) (by decide +kernel)
theorem kw_807 : Cond.fieldLink rr_M (32) "LineDeskModel" "measure" "[I" ∈ kx_T := kx_in (i := 807) (by decide +kernel) (by decide +kernel)
theorem kw_808 : Cond.fieldLink rr_M (35) "LineDeskModel" "skips" "[I" ∈ kx_T := kx_in (i := 808) (by decide +kernel) (by decide +kernel)
theorem kw_812 : Cond.fieldLink rr_M (41) "LineDeskModel" "is" "[Z" ∈ kx_T := kx_in (i := 812) (by decide +kernel) (by decide +kernel)
theorem kw_813 : Cond.fieldLink rr_M (45) "LineDeskModel" "out" "[J" ∈ kx_T := kx_in (i := 813) (by decide +kernel) (by decide +kernel)
theorem kw_814 : Cond.fieldLink rr_M (49) "LineDeskModel" "bad" "[I" ∈ kx_T := kx_in (i := 814) (by decide +kernel) (by decide +kernel)
theorem kw_815 : Cond.fieldLink rr_M (52) "LineDeskModel" "demerits" "[J" ∈ kx_T := kx_in (i := 815) (by decide +kernel) (by decide +kernel)
theorem kw_816 : Cond.fieldLink rr_M (56) "LineDeskModel" "back" "[J" ∈ kx_T := kx_in (i := 816) (by decide +kernel) (by decide +kernel)
theorem kw_821 : Cond.fieldLink rr_M (129) "LineDeskModel" "lineClass" "I" ∈ kx_T := kx_in (i := 821) (by decide +kernel) (by decide +kernel)
theorem kw_999 : Cond.methodLink rr_M (112) yy_M_isWhole ∈ kx_T := kx_in (i := 999) (by decide +kernel) (by decide +kernel)
theorem kw_1001 : Cond.instanceMethod yy_M_isWhole ∈ kx_T := kx_in (i := 1001) (by decide +kernel) (by decide +kernel)
set_option maxRecDepth 100000 in
theorem kw_1002 : Cond.code yy_M_isWhole bb_M_isWhole 2 (some .boolean) ∈ kx_T := kx_in (i := 1002) rfl (by decide +kernel)
theorem kw_1003 : Cond.methodLink rr_M (115) yy_M_isHyphenated ∈ kx_T := kx_in (i := 1003) (by decide +kernel) (by decide +kernel)
theorem kw_1005 : Cond.instanceMethod yy_M_isHyphenated ∈ kx_T := kx_in (i := 1005) (by decide +kernel) (by decide +kernel)
set_option maxRecDepth 100000 in
theorem kw_1006 : Cond.code yy_M_isHyphenated bb_M_isHyphenated 2 (some .boolean) ∈ kx_T := kx_in (i := 1006) rfl (by decide +kernel)
theorem kw_1007 : Cond.methodLink rr_M (122) yy_M_badness ∈ kx_T := kx_in (i := 1007) (by decide +kernel) (by decide +kernel)
theorem kw_1008 : Cond.static yy_M_badness ∈ kx_T := kx_in (i := 1008) (by decide +kernel) (by decide +kernel)
set_option maxRecDepth 100000 in
theorem kw_1009 : Cond.code yy_M_badness bb_M_badness 6 (some .int) ∈ kx_T := kx_in (i := 1009) rfl (by decide +kernel)
theorem kw_1026 : Cond.methodLink rr_M (132) yy_M_penaltyOf ∈ kx_T := kx_in (i := 1026) (by decide +kernel) (by decide +kernel)
theorem kw_1028 : Cond.instanceMethod yy_M_penaltyOf ∈ kx_T := kx_in (i := 1028) (by decide +kernel) (by decide +kernel)
set_option maxRecDepth 100000 in
theorem kw_1029 : Cond.code yy_M_penaltyOf bb_M_penaltyOf 2 (some .int) ∈ kx_T := kx_in (i := 1029) rfl (by decide +kernel)
theorem kw_1030 : Cond.constantLong rr_M (136) (100000000) ∈ kx_T := kx_in (i := 1030) (by decide +kernel) (by decide +kernel)
theorem kw_1035 : Cond.constantLong rr_M (138) (65535) ∈ kx_T := kx_in (i := 1035) (by decide +kernel) (by decide +kernel)
theorem kw_1036 : Cond.constantLong rr_M (140) (-1) ∈ kx_T := kx_in (i := 1036) (by decide +kernel) (by decide +kernel)
theorem dd_M_weigh_0 : decode bb_M_weigh 0 = .ok (.aload_n 0, 1) := by decide +kernel
theorem dd_M_weigh_1 : decode bb_M_weigh 1 = .ok (.iload_n 1, 1) := by decide +kernel
theorem dd_M_weigh_2 : decode bb_M_weigh 2 = .ok (.invokevirtual 112, 3) := by decide +kernel
theorem dd_M_weigh_5 : decode bb_M_weigh 5 = .ok (.istore 4, 2) := by decide +kernel
theorem dd_M_weigh_7 : decode bb_M_weigh 7 = .ok (.iload 4, 2) := by decide +kernel
theorem dd_M_weigh_9 : decode bb_M_weigh 9 = .ok (.ifCond .eq (12), 3) := by decide +kernel
theorem dd_M_weigh_12 : decode bb_M_weigh 12 = .ok (.aload_n 0, 1) := by decide +kernel
theorem dd_M_weigh_13 : decode bb_M_weigh 13 = .ok (.getfield 59, 3) := by decide +kernel
theorem dd_M_weigh_16 : decode bb_M_weigh 16 = .ok (.iconst 0, 1) := by decide +kernel
theorem dd_M_weigh_17 : decode bb_M_weigh 17 = .ok (.laload, 1) := by decide +kernel
theorem dd_M_weigh_18 : decode bb_M_weigh 18 = .ok (.goto (9), 3) := by decide +kernel
theorem dd_M_weigh_21 : decode bb_M_weigh 21 = .ok (.aload_n 0, 1) := by decide +kernel
theorem dd_M_weigh_22 : decode bb_M_weigh 22 = .ok (.getfield 62, 3) := by decide +kernel
theorem dd_M_weigh_25 : decode bb_M_weigh 25 = .ok (.iconst 0, 1) := by decide +kernel
theorem dd_M_weigh_26 : decode bb_M_weigh 26 = .ok (.laload, 1) := by decide +kernel
theorem dd_M_weigh_27 : decode bb_M_weigh 27 = .ok (.aload_n 0, 1) := by decide +kernel
theorem dd_M_weigh_28 : decode bb_M_weigh 28 = .ok (.getfield 35, 3) := by decide +kernel
theorem dd_M_weigh_31 : decode bb_M_weigh 31 = .ok (.iconst 0, 1) := by decide +kernel
theorem dd_M_weigh_32 : decode bb_M_weigh 32 = .ok (.iaload, 1) := by decide +kernel
theorem dd_M_weigh_33 : decode bb_M_weigh 33 = .ok (.i2l, 1) := by decide +kernel
theorem dd_M_weigh_34 : decode bb_M_weigh 34 = .ok (.ladd, 1) := by decide +kernel
theorem dd_M_weigh_35 : decode bb_M_weigh 35 = .ok (.aload_n 0, 1) := by decide +kernel
theorem dd_M_weigh_36 : decode bb_M_weigh 36 = .ok (.getfield 35, 3) := by decide +kernel
theorem dd_M_weigh_39 : decode bb_M_weigh 39 = .ok (.iconst 4, 1) := by decide +kernel
theorem dd_M_weigh_40 : decode bb_M_weigh 40 = .ok (.iaload, 1) := by decide +kernel
theorem dd_M_weigh_41 : decode bb_M_weigh 41 = .ok (.i2l, 1) := by decide +kernel
theorem dd_M_weigh_42 : decode bb_M_weigh 42 = .ok (.ladd, 1) := by decide +kernel
theorem dd_M_weigh_43 : decode bb_M_weigh 43 = .ok (.lstore 5, 2) := by decide +kernel
theorem dd_M_weigh_45 : decode bb_M_weigh 45 = .ok (.lload 5, 2) := by decide +kernel
theorem dd_M_weigh_47 : decode bb_M_weigh 47 = .ok (.aload_n 0, 1) := by decide +kernel
theorem dd_M_weigh_48 : decode bb_M_weigh 48 = .ok (.iload_n 2, 1) := by decide +kernel
theorem dd_M_weigh_49 : decode bb_M_weigh 49 = .ok (.invokevirtual 115, 3) := by decide +kernel
theorem dd_M_weigh_52 : decode bb_M_weigh 52 = .ok (.ifCond .eq (13), 3) := by decide +kernel
theorem dd_M_weigh_55 : decode bb_M_weigh 55 = .ok (.aload_n 0, 1) := by decide +kernel
theorem dd_M_weigh_56 : decode bb_M_weigh 56 = .ok (.getfield 16, 3) := by decide +kernel
theorem dd_M_weigh_59 : decode bb_M_weigh 59 = .ok (.iload_n 2, 1) := by decide +kernel
theorem dd_M_weigh_60 : decode bb_M_weigh 60 = .ok (.iaload, 1) := by decide +kernel
theorem dd_M_weigh_61 : decode bb_M_weigh 61 = .ok (.i2l, 1) := by decide +kernel
theorem dd_M_weigh_62 : decode bb_M_weigh 62 = .ok (.goto (4), 3) := by decide +kernel
theorem dd_M_weigh_65 : decode bb_M_weigh 65 = .ok (.lconst 0, 1) := by decide +kernel
theorem dd_M_weigh_66 : decode bb_M_weigh 66 = .ok (.ladd, 1) := by decide +kernel
theorem dd_M_weigh_67 : decode bb_M_weigh 67 = .ok (.lstore 5, 2) := by decide +kernel
theorem dd_M_weigh_69 : decode bb_M_weigh 69 = .ok (.lload 5, 2) := by decide +kernel
theorem dd_M_weigh_71 : decode bb_M_weigh 71 = .ok (.aload_n 0, 1) := by decide +kernel
theorem dd_M_weigh_72 : decode bb_M_weigh 72 = .ok (.iload_n 1, 1) := by decide +kernel
theorem dd_M_weigh_73 : decode bb_M_weigh 73 = .ok (.invokevirtual 115, 3) := by decide +kernel
theorem dd_M_weigh_76 : decode bb_M_weigh 76 = .ok (.ifCond .eq (13), 3) := by decide +kernel
theorem dd_M_weigh_79 : decode bb_M_weigh 79 = .ok (.aload_n 0, 1) := by decide +kernel
theorem dd_M_weigh_80 : decode bb_M_weigh 80 = .ok (.getfield 22, 3) := by decide +kernel
theorem dd_M_weigh_83 : decode bb_M_weigh 83 = .ok (.iload_n 1, 1) := by decide +kernel
theorem dd_M_weigh_84 : decode bb_M_weigh 84 = .ok (.iaload, 1) := by decide +kernel
theorem dd_M_weigh_85 : decode bb_M_weigh 85 = .ok (.i2l, 1) := by decide +kernel
theorem dd_M_weigh_86 : decode bb_M_weigh 86 = .ok (.goto (4), 3) := by decide +kernel
theorem dd_M_weigh_89 : decode bb_M_weigh 89 = .ok (.lconst 0, 1) := by decide +kernel
theorem dd_M_weigh_90 : decode bb_M_weigh 90 = .ok (.ladd, 1) := by decide +kernel
theorem dd_M_weigh_91 : decode bb_M_weigh 91 = .ok (.lstore 5, 2) := by decide +kernel
theorem dd_M_weigh_93 : decode bb_M_weigh 93 = .ok (.aload_n 0, 1) := by decide +kernel
theorem dd_M_weigh_94 : decode bb_M_weigh 94 = .ok (.getfield 32, 3) := by decide +kernel
theorem dd_M_weigh_97 : decode bb_M_weigh 97 = .ok (.iload_n 3, 1) := by decide +kernel
theorem dd_M_weigh_98 : decode bb_M_weigh 98 = .ok (.aload_n 0, 1) := by decide +kernel
theorem dd_M_weigh_99 : decode bb_M_weigh 99 = .ok (.getfield 28, 3) := by decide +kernel
theorem dd_M_weigh_102 : decode bb_M_weigh 102 = .ok (.if_icmp .ge (7), 3) := by decide +kernel
theorem dd_M_weigh_105 : decode bb_M_weigh 105 = .ok (.iload_n 3, 1) := by decide +kernel
theorem dd_M_weigh_106 : decode bb_M_weigh 106 = .ok (.goto (7), 3) := by decide +kernel
theorem dd_M_weigh_109 : decode bb_M_weigh 109 = .ok (.aload_n 0, 1) := by decide +kernel
theorem dd_M_weigh_110 : decode bb_M_weigh 110 = .ok (.getfield 28, 3) := by decide +kernel
theorem dd_M_weigh_113 : decode bb_M_weigh 113 = .ok (.iaload, 1) := by decide +kernel
theorem dd_M_weigh_114 : decode bb_M_weigh 114 = .ok (.i2l, 1) := by decide +kernel
theorem dd_M_weigh_115 : decode bb_M_weigh 115 = .ok (.lload 5, 2) := by decide +kernel
theorem dd_M_weigh_117 : decode bb_M_weigh 117 = .ok (.lsub, 1) := by decide +kernel
theorem dd_M_weigh_118 : decode bb_M_weigh 118 = .ok (.lstore 7, 2) := by decide +kernel
theorem dd_M_weigh_120 : decode bb_M_weigh 120 = .ok (.iload 4, 2) := by decide +kernel
theorem dd_M_weigh_122 : decode bb_M_weigh 122 = .ok (.ifCond .eq (12), 3) := by decide +kernel
theorem dd_M_weigh_125 : decode bb_M_weigh 125 = .ok (.aload_n 0, 1) := by decide +kernel
theorem dd_M_weigh_126 : decode bb_M_weigh 126 = .ok (.getfield 59, 3) := by decide +kernel
theorem dd_M_weigh_129 : decode bb_M_weigh 129 = .ok (.iconst 1, 1) := by decide +kernel
theorem dd_M_weigh_130 : decode bb_M_weigh 130 = .ok (.laload, 1) := by decide +kernel
theorem dd_M_weigh_131 : decode bb_M_weigh 131 = .ok (.goto (9), 3) := by decide +kernel
theorem dd_M_weigh_134 : decode bb_M_weigh 134 = .ok (.aload_n 0, 1) := by decide +kernel
theorem dd_M_weigh_135 : decode bb_M_weigh 135 = .ok (.getfield 62, 3) := by decide +kernel
theorem dd_M_weigh_138 : decode bb_M_weigh 138 = .ok (.iconst 1, 1) := by decide +kernel
theorem dd_M_weigh_139 : decode bb_M_weigh 139 = .ok (.laload, 1) := by decide +kernel
theorem dd_M_weigh_140 : decode bb_M_weigh 140 = .ok (.lstore 9, 2) := by decide +kernel
theorem dd_M_weigh_142 : decode bb_M_weigh 142 = .ok (.iload 4, 2) := by decide +kernel
theorem dd_M_weigh_144 : decode bb_M_weigh 144 = .ok (.ifCond .eq (26), 3) := by decide +kernel
theorem dd_M_weigh_147 : decode bb_M_weigh 147 = .ok (.aload_n 0, 1) := by decide +kernel
theorem dd_M_weigh_148 : decode bb_M_weigh 148 = .ok (.getfield 59, 3) := by decide +kernel
theorem dd_M_weigh_151 : decode bb_M_weigh 151 = .ok (.iconst 2, 1) := by decide +kernel
theorem dd_M_weigh_152 : decode bb_M_weigh 152 = .ok (.laload, 1) := by decide +kernel
theorem dd_M_weigh_153 : decode bb_M_weigh 153 = .ok (.aload_n 0, 1) := by decide +kernel
theorem dd_M_weigh_154 : decode bb_M_weigh 154 = .ok (.getfield 59, 3) := by decide +kernel
theorem dd_M_weigh_157 : decode bb_M_weigh 157 = .ok (.iconst 3, 1) := by decide +kernel
theorem dd_M_weigh_158 : decode bb_M_weigh 158 = .ok (.laload, 1) := by decide +kernel
theorem dd_M_weigh_159 : decode bb_M_weigh 159 = .ok (.ladd, 1) := by decide +kernel
theorem dd_M_weigh_160 : decode bb_M_weigh 160 = .ok (.aload_n 0, 1) := by decide +kernel
theorem dd_M_weigh_161 : decode bb_M_weigh 161 = .ok (.getfield 59, 3) := by decide +kernel
theorem dd_M_weigh_164 : decode bb_M_weigh 164 = .ok (.iconst 4, 1) := by decide +kernel
theorem dd_M_weigh_165 : decode bb_M_weigh 165 = .ok (.laload, 1) := by decide +kernel
theorem dd_M_weigh_166 : decode bb_M_weigh 166 = .ok (.ladd, 1) := by decide +kernel
theorem dd_M_weigh_167 : decode bb_M_weigh 167 = .ok (.goto (23), 3) := by decide +kernel
theorem dd_M_weigh_170 : decode bb_M_weigh 170 = .ok (.aload_n 0, 1) := by decide +kernel
theorem dd_M_weigh_171 : decode bb_M_weigh 171 = .ok (.getfield 62, 3) := by decide +kernel
theorem dd_M_weigh_174 : decode bb_M_weigh 174 = .ok (.iconst 2, 1) := by decide +kernel
theorem dd_M_weigh_175 : decode bb_M_weigh 175 = .ok (.laload, 1) := by decide +kernel
theorem dd_M_weigh_176 : decode bb_M_weigh 176 = .ok (.aload_n 0, 1) := by decide +kernel
theorem dd_M_weigh_177 : decode bb_M_weigh 177 = .ok (.getfield 62, 3) := by decide +kernel
theorem dd_M_weigh_180 : decode bb_M_weigh 180 = .ok (.iconst 3, 1) := by decide +kernel
theorem dd_M_weigh_181 : decode bb_M_weigh 181 = .ok (.laload, 1) := by decide +kernel
theorem dd_M_weigh_182 : decode bb_M_weigh 182 = .ok (.ladd, 1) := by decide +kernel
theorem dd_M_weigh_183 : decode bb_M_weigh 183 = .ok (.aload_n 0, 1) := by decide +kernel
theorem dd_M_weigh_184 : decode bb_M_weigh 184 = .ok (.getfield 62, 3) := by decide +kernel
theorem dd_M_weigh_187 : decode bb_M_weigh 187 = .ok (.iconst 4, 1) := by decide +kernel
theorem dd_M_weigh_188 : decode bb_M_weigh 188 = .ok (.laload, 1) := by decide +kernel
theorem dd_M_weigh_189 : decode bb_M_weigh 189 = .ok (.ladd, 1) := by decide +kernel
theorem dd_M_weigh_190 : decode bb_M_weigh 190 = .ok (.lstore 11, 2) := by decide +kernel
theorem dd_M_weigh_192 : decode bb_M_weigh 192 = .ok (.iload 4, 2) := by decide +kernel
theorem dd_M_weigh_194 : decode bb_M_weigh 194 = .ok (.ifCond .eq (12), 3) := by decide +kernel
theorem dd_M_weigh_197 : decode bb_M_weigh 197 = .ok (.aload_n 0, 1) := by decide +kernel
theorem dd_M_weigh_198 : decode bb_M_weigh 198 = .ok (.getfield 59, 3) := by decide +kernel
theorem dd_M_weigh_201 : decode bb_M_weigh 201 = .ok (.iconst 5, 1) := by decide +kernel
theorem dd_M_weigh_202 : decode bb_M_weigh 202 = .ok (.laload, 1) := by decide +kernel
theorem dd_M_weigh_203 : decode bb_M_weigh 203 = .ok (.goto (9), 3) := by decide +kernel
theorem dd_M_weigh_206 : decode bb_M_weigh 206 = .ok (.aload_n 0, 1) := by decide +kernel
theorem dd_M_weigh_207 : decode bb_M_weigh 207 = .ok (.getfield 62, 3) := by decide +kernel
theorem dd_M_weigh_210 : decode bb_M_weigh 210 = .ok (.iconst 5, 1) := by decide +kernel
theorem dd_M_weigh_211 : decode bb_M_weigh 211 = .ok (.laload, 1) := by decide +kernel
theorem dd_M_weigh_212 : decode bb_M_weigh 212 = .ok (.aload_n 0, 1) := by decide +kernel
theorem dd_M_weigh_213 : decode bb_M_weigh 213 = .ok (.getfield 35, 3) := by decide +kernel
theorem dd_M_weigh_216 : decode bb_M_weigh 216 = .ok (.iconst 3, 1) := by decide +kernel
theorem dd_M_weigh_217 : decode bb_M_weigh 217 = .ok (.iaload, 1) := by decide +kernel
theorem dd_M_weigh_218 : decode bb_M_weigh 218 = .ok (.i2l, 1) := by decide +kernel
theorem dd_M_weigh_219 : decode bb_M_weigh 219 = .ok (.ladd, 1) := by decide +kernel
theorem dd_M_weigh_220 : decode bb_M_weigh 220 = .ok (.aload_n 0, 1) := by decide +kernel
theorem dd_M_weigh_221 : decode bb_M_weigh 221 = .ok (.getfield 35, 3) := by decide +kernel
theorem dd_M_weigh_224 : decode bb_M_weigh 224 = .ok (.bipush (7), 2) := by decide +kernel
theorem dd_M_weigh_226 : decode bb_M_weigh 226 = .ok (.iaload, 1) := by decide +kernel
theorem dd_M_weigh_227 : decode bb_M_weigh 227 = .ok (.i2l, 1) := by decide +kernel
theorem dd_M_weigh_228 : decode bb_M_weigh 228 = .ok (.ladd, 1) := by decide +kernel
theorem dd_M_weigh_229 : decode bb_M_weigh 229 = .ok (.lstore 13, 2) := by decide +kernel
theorem dd_M_weigh_231 : decode bb_M_weigh 231 = .ok (.iconst 0, 1) := by decide +kernel
theorem dd_M_weigh_232 : decode bb_M_weigh 232 = .ok (.istore 15, 2) := by decide +kernel
theorem dd_M_weigh_234 : decode bb_M_weigh 234 = .ok (.iload 15, 2) := by decide +kernel
theorem dd_M_weigh_236 : decode bb_M_weigh 236 = .ok (.bipush (8), 2) := by decide +kernel
theorem dd_M_weigh_238 : decode bb_M_weigh 238 = .ok (.if_icmp .ge (71), 3) := by decide +kernel
theorem dd_M_weigh_241 : decode bb_M_weigh 241 = .ok (.lload 9, 2) := by decide +kernel
theorem dd_M_weigh_243 : decode bb_M_weigh 243 = .ok (.aload_n 0, 1) := by decide +kernel
theorem dd_M_weigh_244 : decode bb_M_weigh 244 = .ok (.getfield 35, 3) := by decide +kernel
theorem dd_M_weigh_247 : decode bb_M_weigh 247 = .ok (.iload 15, 2) := by decide +kernel
theorem dd_M_weigh_249 : decode bb_M_weigh 249 = .ok (.iconst 2, 1) := by decide +kernel
theorem dd_M_weigh_250 : decode bb_M_weigh 250 = .ok (.iadd, 1) := by decide +kernel
theorem dd_M_weigh_251 : decode bb_M_weigh 251 = .ok (.iaload, 1) := by decide +kernel
theorem dd_M_weigh_252 : decode bb_M_weigh 252 = .ok (.ifCond .ne (16), 3) := by decide +kernel
theorem dd_M_weigh_255 : decode bb_M_weigh 255 = .ok (.aload_n 0, 1) := by decide +kernel
theorem dd_M_weigh_256 : decode bb_M_weigh 256 = .ok (.getfield 35, 3) := by decide +kernel
theorem dd_M_weigh_259 : decode bb_M_weigh 259 = .ok (.iload 15, 2) := by decide +kernel
theorem dd_M_weigh_261 : decode bb_M_weigh 261 = .ok (.iconst 1, 1) := by decide +kernel
theorem dd_M_weigh_262 : decode bb_M_weigh 262 = .ok (.iadd, 1) := by decide +kernel
theorem dd_M_weigh_263 : decode bb_M_weigh 263 = .ok (.iaload, 1) := by decide +kernel
theorem dd_M_weigh_264 : decode bb_M_weigh 264 = .ok (.i2l, 1) := by decide +kernel
theorem dd_M_weigh_265 : decode bb_M_weigh 265 = .ok (.goto (4), 3) := by decide +kernel
theorem dd_M_weigh_268 : decode bb_M_weigh 268 = .ok (.lconst 0, 1) := by decide +kernel
theorem dd_M_weigh_269 : decode bb_M_weigh 269 = .ok (.ladd, 1) := by decide +kernel
theorem dd_M_weigh_270 : decode bb_M_weigh 270 = .ok (.lstore 9, 2) := by decide +kernel
theorem dd_M_weigh_272 : decode bb_M_weigh 272 = .ok (.lload 11, 2) := by decide +kernel
theorem dd_M_weigh_274 : decode bb_M_weigh 274 = .ok (.aload_n 0, 1) := by decide +kernel
theorem dd_M_weigh_275 : decode bb_M_weigh 275 = .ok (.getfield 35, 3) := by decide +kernel
theorem dd_M_weigh_278 : decode bb_M_weigh 278 = .ok (.iload 15, 2) := by decide +kernel
theorem dd_M_weigh_280 : decode bb_M_weigh 280 = .ok (.iconst 2, 1) := by decide +kernel
theorem dd_M_weigh_281 : decode bb_M_weigh 281 = .ok (.iadd, 1) := by decide +kernel
theorem dd_M_weigh_282 : decode bb_M_weigh 282 = .ok (.iaload, 1) := by decide +kernel
theorem dd_M_weigh_283 : decode bb_M_weigh 283 = .ok (.ifCond .le (16), 3) := by decide +kernel
theorem dd_M_weigh_286 : decode bb_M_weigh 286 = .ok (.aload_n 0, 1) := by decide +kernel
theorem dd_M_weigh_287 : decode bb_M_weigh 287 = .ok (.getfield 35, 3) := by decide +kernel
theorem dd_M_weigh_290 : decode bb_M_weigh 290 = .ok (.iload 15, 2) := by decide +kernel
theorem dd_M_weigh_292 : decode bb_M_weigh 292 = .ok (.iconst 1, 1) := by decide +kernel
theorem dd_M_weigh_293 : decode bb_M_weigh 293 = .ok (.iadd, 1) := by decide +kernel
theorem dd_M_weigh_294 : decode bb_M_weigh 294 = .ok (.iaload, 1) := by decide +kernel
theorem dd_M_weigh_295 : decode bb_M_weigh 295 = .ok (.i2l, 1) := by decide +kernel
theorem dd_M_weigh_296 : decode bb_M_weigh 296 = .ok (.goto (4), 3) := by decide +kernel
theorem dd_M_weigh_299 : decode bb_M_weigh 299 = .ok (.lconst 0, 1) := by decide +kernel
theorem dd_M_weigh_300 : decode bb_M_weigh 300 = .ok (.ladd, 1) := by decide +kernel
theorem dd_M_weigh_301 : decode bb_M_weigh 301 = .ok (.lstore 11, 2) := by decide +kernel
theorem dd_M_weigh_303 : decode bb_M_weigh 303 = .ok (.iinc 15 (4), 3) := by decide +kernel
theorem dd_M_weigh_306 : decode bb_M_weigh 306 = .ok (.goto (-72), 3) := by decide +kernel
theorem dd_M_weigh_309 : decode bb_M_weigh 309 = .ok (.aload_n 0, 1) := by decide +kernel
theorem dd_M_weigh_310 : decode bb_M_weigh 310 = .ok (.lconst 0, 1) := by decide +kernel
theorem dd_M_weigh_311 : decode bb_M_weigh 311 = .ok (.putfield 118, 3) := by decide +kernel
theorem dd_M_weigh_314 : decode bb_M_weigh 314 = .ok (.lload 7, 2) := by decide +kernel
theorem dd_M_weigh_316 : decode bb_M_weigh 316 = .ok (.lconst 0, 1) := by decide +kernel
theorem dd_M_weigh_317 : decode bb_M_weigh 317 = .ok (.lcmp, 1) := by decide +kernel
theorem dd_M_weigh_318 : decode bb_M_weigh 318 = .ok (.ifCond .lt (59), 3) := by decide +kernel
theorem dd_M_weigh_321 : decode bb_M_weigh 321 = .ok (.aload_n 0, 1) := by decide +kernel
theorem dd_M_weigh_322 : decode bb_M_weigh 322 = .ok (.lload 11, 2) := by decide +kernel
theorem dd_M_weigh_324 : decode bb_M_weigh 324 = .ok (.lconst 0, 1) := by decide +kernel
theorem dd_M_weigh_325 : decode bb_M_weigh 325 = .ok (.lcmp, 1) := by decide +kernel
theorem dd_M_weigh_326 : decode bb_M_weigh 326 = .ok (.ifCond .le (7), 3) := by decide +kernel
theorem dd_M_weigh_329 : decode bb_M_weigh 329 = .ok (.iconst 0, 1) := by decide +kernel
theorem dd_M_weigh_330 : decode bb_M_weigh 330 = .ok (.goto (10), 3) := by decide +kernel
theorem dd_M_weigh_333 : decode bb_M_weigh 333 = .ok (.lload 7, 2) := by decide +kernel
theorem dd_M_weigh_335 : decode bb_M_weigh 335 = .ok (.lload 9, 2) := by decide +kernel
theorem dd_M_weigh_337 : decode bb_M_weigh 337 = .ok (.invokestatic 122, 3) := by decide +kernel
theorem dd_M_weigh_340 : decode bb_M_weigh 340 = .ok (.putfield 126, 3) := by decide +kernel
theorem dd_M_weigh_343 : decode bb_M_weigh 343 = .ok (.aload_n 0, 1) := by decide +kernel
theorem dd_M_weigh_344 : decode bb_M_weigh 344 = .ok (.aload_n 0, 1) := by decide +kernel
theorem dd_M_weigh_345 : decode bb_M_weigh 345 = .ok (.getfield 126, 3) := by decide +kernel
theorem dd_M_weigh_348 : decode bb_M_weigh 348 = .ok (.bipush (99), 2) := by decide +kernel
theorem dd_M_weigh_350 : decode bb_M_weigh 350 = .ok (.if_icmp .le (7), 3) := by decide +kernel
theorem dd_M_weigh_353 : decode bb_M_weigh 353 = .ok (.iconst 0, 1) := by decide +kernel
theorem dd_M_weigh_354 : decode bb_M_weigh 354 = .ok (.goto (17), 3) := by decide +kernel
theorem dd_M_weigh_357 : decode bb_M_weigh 357 = .ok (.aload_n 0, 1) := by decide +kernel
theorem dd_M_weigh_358 : decode bb_M_weigh 358 = .ok (.getfield 126, 3) := by decide +kernel
theorem dd_M_weigh_361 : decode bb_M_weigh 361 = .ok (.bipush (12), 2) := by decide +kernel
theorem dd_M_weigh_363 : decode bb_M_weigh 363 = .ok (.if_icmp .le (7), 3) := by decide +kernel
theorem dd_M_weigh_366 : decode bb_M_weigh 366 = .ok (.iconst 1, 1) := by decide +kernel
theorem dd_M_weigh_367 : decode bb_M_weigh 367 = .ok (.goto (4), 3) := by decide +kernel
theorem dd_M_weigh_370 : decode bb_M_weigh 370 = .ok (.iconst 2, 1) := by decide +kernel
theorem dd_M_weigh_371 : decode bb_M_weigh 371 = .ok (.putfield 129, 3) := by decide +kernel
theorem dd_M_weigh_374 : decode bb_M_weigh 374 = .ok (.goto (67), 3) := by decide +kernel
theorem dd_M_weigh_377 : decode bb_M_weigh 377 = .ok (.lload 13, 2) := by decide +kernel
theorem dd_M_weigh_379 : decode bb_M_weigh 379 = .ok (.lload 7, 2) := by decide +kernel
theorem dd_M_weigh_381 : decode bb_M_weigh 381 = .ok (.lneg, 1) := by decide +kernel
theorem dd_M_weigh_382 : decode bb_M_weigh 382 = .ok (.lcmp, 1) := by decide +kernel
theorem dd_M_weigh_383 : decode bb_M_weigh 383 = .ok (.ifCond .ge (28), 3) := by decide +kernel
theorem dd_M_weigh_386 : decode bb_M_weigh 386 = .ok (.aload_n 0, 1) := by decide +kernel
theorem dd_M_weigh_387 : decode bb_M_weigh 387 = .ok (.lload 7, 2) := by decide +kernel
theorem dd_M_weigh_389 : decode bb_M_weigh 389 = .ok (.lneg, 1) := by decide +kernel
theorem dd_M_weigh_390 : decode bb_M_weigh 390 = .ok (.lload 13, 2) := by decide +kernel
theorem dd_M_weigh_392 : decode bb_M_weigh 392 = .ok (.lsub, 1) := by decide +kernel
theorem dd_M_weigh_393 : decode bb_M_weigh 393 = .ok (.putfield 118, 3) := by decide +kernel
theorem dd_M_weigh_396 : decode bb_M_weigh 396 = .ok (.aload_n 0, 1) := by decide +kernel
theorem dd_M_weigh_397 : decode bb_M_weigh 397 = .ok (.sipush (10000), 3) := by decide +kernel
theorem dd_M_weigh_400 : decode bb_M_weigh 400 = .ok (.putfield 126, 3) := by decide +kernel
theorem dd_M_weigh_403 : decode bb_M_weigh 403 = .ok (.aload_n 0, 1) := by decide +kernel
theorem dd_M_weigh_404 : decode bb_M_weigh 404 = .ok (.iconst 3, 1) := by decide +kernel
theorem dd_M_weigh_405 : decode bb_M_weigh 405 = .ok (.putfield 129, 3) := by decide +kernel
theorem dd_M_weigh_408 : decode bb_M_weigh 408 = .ok (.goto (33), 3) := by decide +kernel
theorem dd_M_weigh_411 : decode bb_M_weigh 411 = .ok (.aload_n 0, 1) := by decide +kernel
theorem dd_M_weigh_412 : decode bb_M_weigh 412 = .ok (.lload 7, 2) := by decide +kernel
theorem dd_M_weigh_414 : decode bb_M_weigh 414 = .ok (.lneg, 1) := by decide +kernel
theorem dd_M_weigh_415 : decode bb_M_weigh 415 = .ok (.lload 13, 2) := by decide +kernel
theorem dd_M_weigh_417 : decode bb_M_weigh 417 = .ok (.invokestatic 122, 3) := by decide +kernel
theorem dd_M_weigh_420 : decode bb_M_weigh 420 = .ok (.putfield 126, 3) := by decide +kernel
theorem dd_M_weigh_423 : decode bb_M_weigh 423 = .ok (.aload_n 0, 1) := by decide +kernel
theorem dd_M_weigh_424 : decode bb_M_weigh 424 = .ok (.aload_n 0, 1) := by decide +kernel
theorem dd_M_weigh_425 : decode bb_M_weigh 425 = .ok (.getfield 126, 3) := by decide +kernel
theorem dd_M_weigh_428 : decode bb_M_weigh 428 = .ok (.bipush (12), 2) := by decide +kernel
theorem dd_M_weigh_430 : decode bb_M_weigh 430 = .ok (.if_icmp .le (7), 3) := by decide +kernel
theorem dd_M_weigh_433 : decode bb_M_weigh 433 = .ok (.iconst 3, 1) := by decide +kernel
theorem dd_M_weigh_434 : decode bb_M_weigh 434 = .ok (.goto (4), 3) := by decide +kernel
theorem dd_M_weigh_437 : decode bb_M_weigh 437 = .ok (.iconst 2, 1) := by decide +kernel
theorem dd_M_weigh_438 : decode bb_M_weigh 438 = .ok (.putfield 129, 3) := by decide +kernel
theorem dd_M_weigh_441 : decode bb_M_weigh 441 = .ok (.return_, 1) := by decide +kernel

set_option maxHeartbeats 4000000 in
set_option maxRecDepth 100000 in
theorem ct_M_weigh (l : Launch) (D : va_G) (cI cJ cZ : ClassId) (sz : Nat) (o : Nat) (th : Nat) (cn : Nat) (a0 : Nat) (a1 : Nat) (a2 : Nat) (a3 : Nat) (a4 : Nat) (a5 : Nat) (mn : Nat) (a6 : Nat) (a7 : Nat) (ps : Nat) (bk : Nat) (a8 : Nat) (a9 : Nat) (a10 : Nat) (a11 : Nat) (a12 : Nat) (a13 : Nat) (a14 : Nat) (a15 : Nat) (kf : Nat) (lb : Int32) (lc : Nat) (lo : Int64) (el : Nat) (ec : Nat) (eo : Int64) (eb : Int32) (ed : Int64) (mp : Nat) (ml : Nat) (md : Int64) (mo : Int64) (mb : Int32) (a16 : Nat) (a17 : Nat) (kd : Nat → Int32) (sr : Nat → Int32) (od : Nat → Int32) (sk : Nat → Int32) (me : Nat → Int32) (si : Nat → Int32) (su : Nat → Int64) (ke : Nat → Int64) (fr : Nat) (b : Nat) (n : Nat) (hf : fr < 4097) (hb : b ≤ cn) (hc : cn ≤ 4096) (hn : n < 2 ^ 31) (hm : mn ≤ 256) : kx_Mv l yy_M_weigh ww_M_weigh ({ frames := 1, cells := 0, slots := 0, locals := 25 }) D vwCl (kx_ty cI cJ cZ) [.ref o, .int (nI fr), .int (nI b), .int (nI n)] [(o, .inr (0, [.int (nI th), .int (nI cn), .ref a0, .ref a1, .ref a2, .ref a3, .ref a4, .ref a5, .int (nI mn), .ref a6, .ref a7, .int (nI ps), .int (nI bk), .ref a8, .ref a9, .ref a10, .ref a11, .ref a12, .ref a13, .ref a14, .ref a15, .int (nI kf), .int lb, .int (nI lc), .long lo, .int (nI el), .int (nI ec), .long eo, .int eb, .long ed, .int (nI mp), .int (nI ml), .long md, .long mo, .int mb, .ref a16, .ref a17])), (a0, .inl (cI, 4097, .inl kd)), (a2, .inl (cI, 4097, .inl sr)), (a3, .inl (cI, 4097, .inl od)), (a4, .inl (cI, 4097, .inl sk)), (a6, .inl (cI, 258, .inl me)), (a7, .inl (cI, 8, .inl si)), (a14, .inl (cJ, 6, .inr (.inl su))), (a15, .inl (cJ, 6, .inr (.inl ke)))] sz (fun (u : Int32 × Nat × Int64) => u.1 = pm_lb (pm_ex (pm_S (pm_wh kd od fr) su ke) si (if pm_hy kd cn b then (sr b).toInt64 else 0) (if pm_hy kd cn fr then (sk fr).toInt64 else 0) (me (pm_mi n mn))) (pm_pl (pm_S (pm_wh kd od fr) su ke) si) (pm_fa (pm_S (pm_wh kd od fr) su ke) si) (pm_le (pm_S (pm_wh kd od fr) su ke) si) ∧ u.2.1 = pm_lc (pm_ex (pm_S (pm_wh kd od fr) su ke) si (if pm_hy kd cn b then (sr b).toInt64 else 0) (if pm_hy kd cn fr then (sk fr).toInt64 else 0) (me (pm_mi n mn))) (pm_pl (pm_S (pm_wh kd od fr) su ke) si) (pm_fa (pm_S (pm_wh kd od fr) su ke) si) (pm_le (pm_S (pm_wh kd od fr) su ke) si) ∧ u.2.2 = pm_lo (pm_ex (pm_S (pm_wh kd od fr) su ke) si (if pm_hy kd cn b then (sr b).toInt64 else 0) (if pm_hy kd cn fr then (sk fr).toInt64 else 0) (me (pm_mi n mn))) (pm_le (pm_S (pm_wh kd od fr) su ke) si)) (fun (u : Int32 × Nat × Int64) => [(o, .inr (0, [.int (nI th), .int (nI cn), .ref a0, .ref a1, .ref a2, .ref a3, .ref a4, .ref a5, .int (nI mn), .ref a6, .ref a7, .int (nI ps), .int (nI bk), .ref a8, .ref a9, .ref a10, .ref a11, .ref a12, .ref a13, .ref a14, .ref a15, .int (nI kf), .int u.1, .int (nI u.2.1), .long u.2.2, .int (nI el), .int (nI ec), .long eo, .int eb, .long ed, .int (nI mp), .int (nI ml), .long md, .long mo, .int mb, .ref a16, .ref a17])), (a0, .inl (cI, 4097, .inl kd)), (a2, .inl (cI, 4097, .inl sr)), (a3, .inl (cI, 4097, .inl od)), (a4, .inl (cI, 4097, .inl sk)), (a6, .inl (cI, 258, .inl me)), (a7, .inl (cI, 8, .inl si)), (a14, .inl (cJ, 6, .inr (.inl su))), (a15, .inl (cJ, 6, .inr (.inl ke)))]) 0 0 := by
  refine kx_startv (by decide) rfl (Nat.le_of_ble_eq_true rfl) ?_
  intro p e s m below meth c A ls hx hb hr hml hts hown hlocks hin hP hK hN hD hA hS hl
  have hl : lv_has ls 16 [(0, .ref o), (1, .int (nI fr)), (2, .int (nI b)), (3, .int (nI n))] := hl
  have hown : s.vm.findClass rr_M = some m.cls := hown
  have lk0 := hts _ (kx_m kw_818)
  have hin0 : ∀ w ∈ u_ws rr_M tt_M 37, w ∈ ww_M_weigh := fun w h => kx_m (kf_M w h)
  have lk2 := hts _ (kx_m kw_817)
  have lk3 := hts _ (kx_m kw_808)
  have lk4 := hts _ (kx_m kw_802)
  have lk5 := hts _ (kx_m kw_804)
  have lk6 := hts _ (kx_m kw_807)
  have lk7 := hts _ (kx_m kw_806)
  have lk8 := hts _ (kx_m kw_822)
  have lk9 := hts _ (kx_m kw_820)
  have lk10 := hts _ (kx_m kw_821)
  obtain ⟨H, hH⟩ : ∃ H, H = s.heap := ⟨_, rfl⟩
  obtain ⟨locs, hlocs⟩ : ∃ z : List Loc, z = [] := ⟨_, rfl⟩
  have hP : va_P D vwCl [(o, .inr (0, [.int (nI th), .int (nI cn), .ref a0, .ref a1, .ref a2, .ref a3, .ref a4, .ref a5, .int (nI mn), .ref a6, .ref a7, .int (nI ps), .int (nI bk), .ref a8, .ref a9, .ref a10, .ref a11, .ref a12, .ref a13, .ref a14, .ref a15, .int (nI kf), .int lb, .int (nI lc), .long lo, .int (nI el), .int (nI ec), .long eo, .int eb, .long ed, .int (nI mp), .int (nI ml), .long md, .long mo, .int mb, .ref a16, .ref a17])), (a0, .inl (cI, 4097, .inl kd)), (a2, .inl (cI, 4097, .inl sr)), (a3, .inl (cI, 4097, .inl od)), (a4, .inl (cI, 4097, .inl sk)), (a6, .inl (cI, 258, .inl me)), (a7, .inl (cI, 8, .inl si)), (a14, .inl (cJ, 6, .inr (.inl su))), (a15, .inl (cJ, 6, .inr (.inl ke)))] H := by rw [hH]; exact hP
  have hS : va_S A s.heap H locs := by rw [hH, hlocs]; exact hS
  refine kx_gen hH hlocs ?_
  clear hH hlocs
  refine kx_nameQ (fun Q hQ => ?_)
  refine lv_aload_n hx hb dd_M_weigh_0 rfl (lv_at hl 0 rfl) ?_
  refine lv_iload_n hx hb dd_M_weigh_1 rfl (lv_at hl 1 rfl) ?_
  refine kx_calli (wr := [(a2, .inl (cI, 4097, .inl sr)), (a4, .inl (cI, 4097, .inl sk)), (a6, .inl (cI, 258, .inl me)), (a7, .inl (cI, 8, .inl si)), (a14, .inl (cJ, 6, .inr (.inl su))), (a15, .inl (cJ, 6, .inr (.inl ke)))]) (va_runV (C := rr_M) (As := [.int (nI fr)]) (rest := []) ⟨hx, hb, hml, hown, hts⟩ (ct_M_isWhole l D cI cJ cZ H.size o th cn a0 a1 a2 a3 a4 a5 mn a6 a7 ps bk a8 a9 a10 a11 a12 a13 a14 a15 kf lb lc lo el ec eo eb ed mp ml md mo mb a16 a17 kd od fr (by omega)) ⟨(callB_of 1 hts (kx_good kw_1002) rfl rfl rfl (hts _ (kx_m kw_53)) (hts _ (kx_m kw_999)) (by decide +kernel) ⟨Nat.le_of_ble_eq_true rfl, Nat.le_of_ble_eq_true rfl⟩), (hts _ (kx_m kw_1001)), (hts _ (kx_m kw_32))⟩ (kx_preV (ci := 0) (q0 := 0) hK hN (hP.sub [0, 1, 3] kt_9_0_1_3) (hD.sub [0, 1, 3] (by decide) ks_9_0_1_3) rfl kg_3_0) rfl rfl hl.1 rfl (lv_room (Nat.le_of_ble_eq_true rfl)) dd_M_weigh_2 ⟨Nat.le_of_ble_eq_true rfl, Nat.le_of_ble_eq_true rfl⟩) hP hD hS hA [0, 1, 3] [2, 4, 5, 6, 7, 8] ks_9_0_1_3 ks_9_2_4_5_6_7_8 (by decide) (by decide) (fun r2 u2 H locs hw2 hP hD hS => ?_)
  have hP : va_P D vwCl [(a2, .inl (cI, 4097, .inl sr)), (a4, .inl (cI, 4097, .inl sk)), (a6, .inl (cI, 258, .inl me)), (a7, .inl (cI, 8, .inl si)), (a14, .inl (cJ, 6, .inr (.inl su))), (a15, .inl (cJ, 6, .inr (.inl ke))), (o, .inr (0, [.int (nI th), .int (nI cn), .ref a0, .ref a1, .ref a2, .ref a3, .ref a4, .ref a5, .int (nI mn), .ref a6, .ref a7, .int (nI ps), .int (nI bk), .ref a8, .ref a9, .ref a10, .ref a11, .ref a12, .ref a13, .ref a14, .ref a15, .int (nI kf), .int lb, .int (nI lc), .long lo, .int (nI el), .int (nI ec), .long eo, .int eb, .long ed, .int (nI mp), .int (nI ml), .long md, .long mo, .int mb, .ref a16, .ref a17])), (a0, .inl (cI, 4097, .inl kd)), (a3, .inl (cI, 4097, .inl od))] H := hP
  have hD : va_D A [(a2, .inl (cI, 4097, .inl sr)), (a4, .inl (cI, 4097, .inl sk)), (a6, .inl (cI, 258, .inl me)), (a7, .inl (cI, 8, .inl si)), (a14, .inl (cJ, 6, .inr (.inl su))), (a15, .inl (cJ, 6, .inr (.inl ke))), (o, .inr (0, [.int (nI th), .int (nI cn), .ref a0, .ref a1, .ref a2, .ref a3, .ref a4, .ref a5, .int (nI mn), .ref a6, .ref a7, .int (nI ps), .int (nI bk), .ref a8, .ref a9, .ref a10, .ref a11, .ref a12, .ref a13, .ref a14, .ref a15, .int (nI kf), .int lb, .int (nI lc), .long lo, .int (nI el), .int (nI ec), .long eo, .int eb, .long ed, .int (nI mp), .int (nI ml), .long md, .long mo, .int mb, .ref a16, .ref a17])), (a0, .inl (cI, 4097, .inl kd)), (a3, .inl (cI, 4097, .inl od))] := hD
  have hP : va_P D vwCl [(o, .inr (0, [.int (nI th), .int (nI cn), .ref a0, .ref a1, .ref a2, .ref a3, .ref a4, .ref a5, .int (nI mn), .ref a6, .ref a7, .int (nI ps), .int (nI bk), .ref a8, .ref a9, .ref a10, .ref a11, .ref a12, .ref a13, .ref a14, .ref a15, .int (nI kf), .int lb, .int (nI lc), .long lo, .int (nI el), .int (nI ec), .long eo, .int eb, .long ed, .int (nI mp), .int (nI ml), .long md, .long mo, .int mb, .ref a16, .ref a17])), (a0, .inl (cI, 4097, .inl kd)), (a2, .inl (cI, 4097, .inl sr)), (a3, .inl (cI, 4097, .inl od)), (a4, .inl (cI, 4097, .inl sk)), (a6, .inl (cI, 258, .inl me)), (a7, .inl (cI, 8, .inl si)), (a14, .inl (cJ, 6, .inr (.inl su))), (a15, .inl (cJ, 6, .inr (.inl ke)))] H := hP.sub [6, 7, 0, 8, 1, 2, 3, 4, 5] kt_9_6_7_0_8_1_2_3_4_5
  have hD : va_D A [(o, .inr (0, [.int (nI th), .int (nI cn), .ref a0, .ref a1, .ref a2, .ref a3, .ref a4, .ref a5, .int (nI mn), .ref a6, .ref a7, .int (nI ps), .int (nI bk), .ref a8, .ref a9, .ref a10, .ref a11, .ref a12, .ref a13, .ref a14, .ref a15, .int (nI kf), .int lb, .int (nI lc), .long lo, .int (nI el), .int (nI ec), .long eo, .int eb, .long ed, .int (nI mp), .int (nI ml), .long md, .long mo, .int mb, .ref a16, .ref a17])), (a0, .inl (cI, 4097, .inl kd)), (a2, .inl (cI, 4097, .inl sr)), (a3, .inl (cI, 4097, .inl od)), (a4, .inl (cI, 4097, .inl sk)), (a6, .inl (cI, 258, .inl me)), (a7, .inl (cI, 8, .inl si)), (a14, .inl (cJ, 6, .inr (.inl su))), (a15, .inl (cJ, 6, .inr (.inl ke)))] := hD.sub [6, 7, 0, 8, 1, 2, 3, 4, 5] (by decide) ks_9_6_7_0_8_1_2_3_4_5
  have hw2 : r2 = kb_p (kd fr = nI 4 ∧ od fr &&& nI 2 = nI 2) := hw2
  subst hw2
  refine lv_istore (lv' := [(4, .int (kb_p (kd fr = nI 4 ∧ od fr &&& nI 2 = nI 2))), (0, .ref o), (1, .int (nI fr)), (2, .int (nI b)), (3, .int (nI n))]) hx hb dd_M_weigh_5 hl (by decide) rfl (fun ls hl => ?_)
  refine lv_iload hx hb dd_M_weigh_7 (lv_at hl 0 rfl) ?_
  refine kx_joinl (D := D) (cl := vwCl) (A := A) (ws := [(o, .inr (0, [.int (nI th), .int (nI cn), .ref a0, .ref a1, .ref a2, .ref a3, .ref a4, .ref a5, .int (nI mn), .ref a6, .ref a7, .int (nI ps), .int (nI bk), .ref a8, .ref a9, .ref a10, .ref a11, .ref a12, .ref a13, .ref a14, .ref a15, .int (nI kf), .int lb, .int (nI lc), .long lo, .int (nI el), .int (nI ec), .long eo, .int eb, .long ed, .int (nI mp), .int (nI ml), .long md, .long mo, .int mb, .ref a16, .ref a17])), (a0, .inl (cI, 4097, .inl kd)), (a2, .inl (cI, 4097, .inl sr)), (a3, .inl (cI, 4097, .inl od)), (a4, .inl (cI, 4097, .inl sk)), (a6, .inl (cI, 258, .inl me)), (a7, .inl (cI, 8, .inl si)), (a14, .inl (cJ, 6, .inr (.inl su))), (a15, .inl (cJ, 6, .inr (.inl ke)))]) (Y := 27) (ls1 := ls) (st1 := []) (if kd fr = nI 4 ∧ od fr &&& nI 2 = nI 2 then (su 0) else (ke 0)) (fun v27 H locs e_v27 hP hD hS => ?_) (fun K27 => ?_)
  · skip
    refine lv_aload_n hx hb dd_M_weigh_27 rfl (lv_at hl 1 rfl) ?_
    refine va_get (D := D) (ci := 0) (v := .ref a7) (C := rr_M) (T := tt_M) (N := 37) hx hb hts hin0 hown hK hP 0 kg_9_0 rfl 10 (by decide) lk3 (fun _ h9 => h9) rfl dd_M_weigh_28 ?_
    refine lv_iconst (v := nI 0) hx hb dd_M_weigh_31 (by decide) ?_
    refine kx_iald (q0 := 6) (t0 := 0) hx hb dd_M_weigh_32 hK hP kg_9_6 rfl (by omega) (by omega) ?_
    refine lv_i2l hx hb dd_M_weigh_33 rfl ?_
    refine lv_ladd hx hb dd_M_weigh_34 ?_
    refine lv_aload_n hx hb dd_M_weigh_35 rfl (lv_at hl 1 rfl) ?_
    refine va_get (D := D) (ci := 0) (v := .ref a7) (C := rr_M) (T := tt_M) (N := 37) hx hb hts hin0 hown hK hP 0 kg_9_0 rfl 10 (by decide) lk3 (fun _ h9 => h9) rfl dd_M_weigh_36 ?_
    refine lv_iconst (v := nI 4) hx hb dd_M_weigh_39 (by decide) ?_
    refine kx_iald (q0 := 6) (t0 := 0) hx hb dd_M_weigh_40 hK hP kg_9_6 rfl (by omega) (by omega) ?_
    refine lv_i2l hx hb dd_M_weigh_41 rfl ?_
    refine lv_ladd hx hb dd_M_weigh_42 ?_
    refine lv_topl (fun w1 e_w1 => ?_)
    refine lv_lstore (lv' := [(5, .long w1), (4, .int (kb_p (kd fr = nI 4 ∧ od fr &&& nI 2 = nI 2))), (0, .ref o), (1, .int (nI fr)), (2, .int (nI b)), (3, .int (nI n))]) hx hb dd_M_weigh_43 hl (by decide) rfl (fun ls hl => ?_)
    refine lv_lload hx hb dd_M_weigh_45 (lv_at hl 0 rfl) ?_
    refine lv_aload_n hx hb dd_M_weigh_47 rfl (lv_at hl 2 rfl) ?_
    refine lv_iload_n hx hb dd_M_weigh_48 rfl (lv_at hl 4 rfl) ?_
    refine kx_calli (wr := [(a2, .inl (cI, 4097, .inl sr)), (a3, .inl (cI, 4097, .inl od)), (a4, .inl (cI, 4097, .inl sk)), (a6, .inl (cI, 258, .inl me)), (a7, .inl (cI, 8, .inl si)), (a14, .inl (cJ, 6, .inr (.inl su))), (a15, .inl (cJ, 6, .inr (.inl ke)))]) (va_runV (C := rr_M) (As := [.int (nI b)]) (rest := [.long w1]) ⟨hx, hb, hml, hown, hts⟩ (ct_M_isHyphenated l D cI cJ cZ H.size o th cn a0 a1 a2 a3 a4 a5 mn a6 a7 ps bk a8 a9 a10 a11 a12 a13 a14 a15 kf lb lc lo el ec eo eb ed mp ml md mo mb a16 a17 kd b (by omega) (by omega)) ⟨(callB_of 1 hts (kx_good kw_1006) rfl rfl rfl (hts _ (kx_m kw_53)) (hts _ (kx_m kw_1003)) (by decide +kernel) ⟨Nat.le_of_ble_eq_true rfl, Nat.le_of_ble_eq_true rfl⟩), (hts _ (kx_m kw_1005)), (hts _ (kx_m kw_33))⟩ (kx_preV (ci := 0) (q0 := 0) hK hN (hP.sub [0, 1] kt_9_0_1) (hD.sub [0, 1] (by decide) ks_9_0_1) rfl kg_2_0) rfl rfl hl.1 rfl (lv_room (Nat.le_of_ble_eq_true rfl)) dd_M_weigh_49 ⟨Nat.le_of_ble_eq_true rfl, Nat.le_of_ble_eq_true rfl⟩) hP hD hS hA [0, 1] [2, 3, 4, 5, 6, 7, 8] ks_9_0_1 ks_9_2_3_4_5_6_7_8 (by decide) (by decide) (fun r49 u49 H locs hw49 hP hD hS => ?_)
    have hP : va_P D vwCl [(a2, .inl (cI, 4097, .inl sr)), (a3, .inl (cI, 4097, .inl od)), (a4, .inl (cI, 4097, .inl sk)), (a6, .inl (cI, 258, .inl me)), (a7, .inl (cI, 8, .inl si)), (a14, .inl (cJ, 6, .inr (.inl su))), (a15, .inl (cJ, 6, .inr (.inl ke))), (o, .inr (0, [.int (nI th), .int (nI cn), .ref a0, .ref a1, .ref a2, .ref a3, .ref a4, .ref a5, .int (nI mn), .ref a6, .ref a7, .int (nI ps), .int (nI bk), .ref a8, .ref a9, .ref a10, .ref a11, .ref a12, .ref a13, .ref a14, .ref a15, .int (nI kf), .int lb, .int (nI lc), .long lo, .int (nI el), .int (nI ec), .long eo, .int eb, .long ed, .int (nI mp), .int (nI ml), .long md, .long mo, .int mb, .ref a16, .ref a17])), (a0, .inl (cI, 4097, .inl kd))] H := hP
    have hD : va_D A [(a2, .inl (cI, 4097, .inl sr)), (a3, .inl (cI, 4097, .inl od)), (a4, .inl (cI, 4097, .inl sk)), (a6, .inl (cI, 258, .inl me)), (a7, .inl (cI, 8, .inl si)), (a14, .inl (cJ, 6, .inr (.inl su))), (a15, .inl (cJ, 6, .inr (.inl ke))), (o, .inr (0, [.int (nI th), .int (nI cn), .ref a0, .ref a1, .ref a2, .ref a3, .ref a4, .ref a5, .int (nI mn), .ref a6, .ref a7, .int (nI ps), .int (nI bk), .ref a8, .ref a9, .ref a10, .ref a11, .ref a12, .ref a13, .ref a14, .ref a15, .int (nI kf), .int lb, .int (nI lc), .long lo, .int (nI el), .int (nI ec), .long eo, .int eb, .long ed, .int (nI mp), .int (nI ml), .long md, .long mo, .int mb, .ref a16, .ref a17])), (a0, .inl (cI, 4097, .inl kd))] := hD
    have hP : va_P D vwCl [(o, .inr (0, [.int (nI th), .int (nI cn), .ref a0, .ref a1, .ref a2, .ref a3, .ref a4, .ref a5, .int (nI mn), .ref a6, .ref a7, .int (nI ps), .int (nI bk), .ref a8, .ref a9, .ref a10, .ref a11, .ref a12, .ref a13, .ref a14, .ref a15, .int (nI kf), .int lb, .int (nI lc), .long lo, .int (nI el), .int (nI ec), .long eo, .int eb, .long ed, .int (nI mp), .int (nI ml), .long md, .long mo, .int mb, .ref a16, .ref a17])), (a0, .inl (cI, 4097, .inl kd)), (a2, .inl (cI, 4097, .inl sr)), (a3, .inl (cI, 4097, .inl od)), (a4, .inl (cI, 4097, .inl sk)), (a6, .inl (cI, 258, .inl me)), (a7, .inl (cI, 8, .inl si)), (a14, .inl (cJ, 6, .inr (.inl su))), (a15, .inl (cJ, 6, .inr (.inl ke)))] H := hP.sub [7, 8, 0, 1, 2, 3, 4, 5, 6] kt_9_7_8_0_1_2_3_4_5_6
    have hD : va_D A [(o, .inr (0, [.int (nI th), .int (nI cn), .ref a0, .ref a1, .ref a2, .ref a3, .ref a4, .ref a5, .int (nI mn), .ref a6, .ref a7, .int (nI ps), .int (nI bk), .ref a8, .ref a9, .ref a10, .ref a11, .ref a12, .ref a13, .ref a14, .ref a15, .int (nI kf), .int lb, .int (nI lc), .long lo, .int (nI el), .int (nI ec), .long eo, .int eb, .long ed, .int (nI mp), .int (nI ml), .long md, .long mo, .int mb, .ref a16, .ref a17])), (a0, .inl (cI, 4097, .inl kd)), (a2, .inl (cI, 4097, .inl sr)), (a3, .inl (cI, 4097, .inl od)), (a4, .inl (cI, 4097, .inl sk)), (a6, .inl (cI, 258, .inl me)), (a7, .inl (cI, 8, .inl si)), (a14, .inl (cJ, 6, .inr (.inl su))), (a15, .inl (cJ, 6, .inr (.inl ke)))] := hD.sub [7, 8, 0, 1, 2, 3, 4, 5, 6] (by decide) ks_9_7_8_0_1_2_3_4_5_6
    have hw49 : r49 = kb_p (b < cn ∧ kd b = nI 4) := hw49
    subst hw49
    refine kx_joinl (D := D) (cl := vwCl) (A := A) (ws := [(o, .inr (0, [.int (nI th), .int (nI cn), .ref a0, .ref a1, .ref a2, .ref a3, .ref a4, .ref a5, .int (nI mn), .ref a6, .ref a7, .int (nI ps), .int (nI bk), .ref a8, .ref a9, .ref a10, .ref a11, .ref a12, .ref a13, .ref a14, .ref a15, .int (nI kf), .int lb, .int (nI lc), .long lo, .int (nI el), .int (nI ec), .long eo, .int eb, .long ed, .int (nI mp), .int (nI ml), .long md, .long mo, .int mb, .ref a16, .ref a17])), (a0, .inl (cI, 4097, .inl kd)), (a2, .inl (cI, 4097, .inl sr)), (a3, .inl (cI, 4097, .inl od)), (a4, .inl (cI, 4097, .inl sk)), (a6, .inl (cI, 258, .inl me)), (a7, .inl (cI, 8, .inl si)), (a14, .inl (cJ, 6, .inr (.inl su))), (a15, .inl (cJ, 6, .inr (.inl ke)))]) (Y := 66) (ls1 := ls) (st1 := [.long w1]) (if b < cn ∧ kd b = nI 4 then ((sr b).toInt64) else (0 : Int64)) (fun v66 H locs e_v66 hP hD hS => ?_) (fun K66 => ?_)
    · skip
      refine lv_ladd hx hb dd_M_weigh_66 ?_
      refine lv_topl (fun w2 e_w2 => ?_)
      refine lv_lstore (lv' := [(5, .long w2), (4, .int (kb_p (kd fr = nI 4 ∧ od fr &&& nI 2 = nI 2))), (0, .ref o), (1, .int (nI fr)), (2, .int (nI b)), (3, .int (nI n))]) hx hb dd_M_weigh_67 hl (by decide) rfl (fun ls hl => ?_)
      refine lv_lload hx hb dd_M_weigh_69 (lv_at hl 0 rfl) ?_
      refine lv_aload_n hx hb dd_M_weigh_71 rfl (lv_at hl 2 rfl) ?_
      refine lv_iload_n hx hb dd_M_weigh_72 rfl (lv_at hl 3 rfl) ?_
      refine kx_calli (wr := [(a2, .inl (cI, 4097, .inl sr)), (a3, .inl (cI, 4097, .inl od)), (a4, .inl (cI, 4097, .inl sk)), (a6, .inl (cI, 258, .inl me)), (a7, .inl (cI, 8, .inl si)), (a14, .inl (cJ, 6, .inr (.inl su))), (a15, .inl (cJ, 6, .inr (.inl ke)))]) (va_runV (C := rr_M) (As := [.int (nI fr)]) (rest := [.long w2]) ⟨hx, hb, hml, hown, hts⟩ (ct_M_isHyphenated l D cI cJ cZ H.size o th cn a0 a1 a2 a3 a4 a5 mn a6 a7 ps bk a8 a9 a10 a11 a12 a13 a14 a15 kf lb lc lo el ec eo eb ed mp ml md mo mb a16 a17 kd fr (by omega) (by omega)) ⟨(callB_of 1 hts (kx_good kw_1006) rfl rfl rfl (hts _ (kx_m kw_53)) (hts _ (kx_m kw_1003)) (by decide +kernel) ⟨Nat.le_of_ble_eq_true rfl, Nat.le_of_ble_eq_true rfl⟩), (hts _ (kx_m kw_1005)), (hts _ (kx_m kw_33))⟩ (kx_preV (ci := 0) (q0 := 0) hK hN (hP.sub [0, 1] kt_9_0_1) (hD.sub [0, 1] (by decide) ks_9_0_1) rfl kg_2_0) rfl rfl hl.1 rfl (lv_room (Nat.le_of_ble_eq_true rfl)) dd_M_weigh_73 ⟨Nat.le_of_ble_eq_true rfl, Nat.le_of_ble_eq_true rfl⟩) hP hD hS hA [0, 1] [2, 3, 4, 5, 6, 7, 8] ks_9_0_1 ks_9_2_3_4_5_6_7_8 (by decide) (by decide) (fun r73 u73 H locs hw73 hP hD hS => ?_)
      have hP : va_P D vwCl [(a2, .inl (cI, 4097, .inl sr)), (a3, .inl (cI, 4097, .inl od)), (a4, .inl (cI, 4097, .inl sk)), (a6, .inl (cI, 258, .inl me)), (a7, .inl (cI, 8, .inl si)), (a14, .inl (cJ, 6, .inr (.inl su))), (a15, .inl (cJ, 6, .inr (.inl ke))), (o, .inr (0, [.int (nI th), .int (nI cn), .ref a0, .ref a1, .ref a2, .ref a3, .ref a4, .ref a5, .int (nI mn), .ref a6, .ref a7, .int (nI ps), .int (nI bk), .ref a8, .ref a9, .ref a10, .ref a11, .ref a12, .ref a13, .ref a14, .ref a15, .int (nI kf), .int lb, .int (nI lc), .long lo, .int (nI el), .int (nI ec), .long eo, .int eb, .long ed, .int (nI mp), .int (nI ml), .long md, .long mo, .int mb, .ref a16, .ref a17])), (a0, .inl (cI, 4097, .inl kd))] H := hP
      have hD : va_D A [(a2, .inl (cI, 4097, .inl sr)), (a3, .inl (cI, 4097, .inl od)), (a4, .inl (cI, 4097, .inl sk)), (a6, .inl (cI, 258, .inl me)), (a7, .inl (cI, 8, .inl si)), (a14, .inl (cJ, 6, .inr (.inl su))), (a15, .inl (cJ, 6, .inr (.inl ke))), (o, .inr (0, [.int (nI th), .int (nI cn), .ref a0, .ref a1, .ref a2, .ref a3, .ref a4, .ref a5, .int (nI mn), .ref a6, .ref a7, .int (nI ps), .int (nI bk), .ref a8, .ref a9, .ref a10, .ref a11, .ref a12, .ref a13, .ref a14, .ref a15, .int (nI kf), .int lb, .int (nI lc), .long lo, .int (nI el), .int (nI ec), .long eo, .int eb, .long ed, .int (nI mp), .int (nI ml), .long md, .long mo, .int mb, .ref a16, .ref a17])), (a0, .inl (cI, 4097, .inl kd))] := hD
      have hP : va_P D vwCl [(o, .inr (0, [.int (nI th), .int (nI cn), .ref a0, .ref a1, .ref a2, .ref a3, .ref a4, .ref a5, .int (nI mn), .ref a6, .ref a7, .int (nI ps), .int (nI bk), .ref a8, .ref a9, .ref a10, .ref a11, .ref a12, .ref a13, .ref a14, .ref a15, .int (nI kf), .int lb, .int (nI lc), .long lo, .int (nI el), .int (nI ec), .long eo, .int eb, .long ed, .int (nI mp), .int (nI ml), .long md, .long mo, .int mb, .ref a16, .ref a17])), (a0, .inl (cI, 4097, .inl kd)), (a2, .inl (cI, 4097, .inl sr)), (a3, .inl (cI, 4097, .inl od)), (a4, .inl (cI, 4097, .inl sk)), (a6, .inl (cI, 258, .inl me)), (a7, .inl (cI, 8, .inl si)), (a14, .inl (cJ, 6, .inr (.inl su))), (a15, .inl (cJ, 6, .inr (.inl ke)))] H := hP.sub [7, 8, 0, 1, 2, 3, 4, 5, 6] kt_9_7_8_0_1_2_3_4_5_6
      have hD : va_D A [(o, .inr (0, [.int (nI th), .int (nI cn), .ref a0, .ref a1, .ref a2, .ref a3, .ref a4, .ref a5, .int (nI mn), .ref a6, .ref a7, .int (nI ps), .int (nI bk), .ref a8, .ref a9, .ref a10, .ref a11, .ref a12, .ref a13, .ref a14, .ref a15, .int (nI kf), .int lb, .int (nI lc), .long lo, .int (nI el), .int (nI ec), .long eo, .int eb, .long ed, .int (nI mp), .int (nI ml), .long md, .long mo, .int mb, .ref a16, .ref a17])), (a0, .inl (cI, 4097, .inl kd)), (a2, .inl (cI, 4097, .inl sr)), (a3, .inl (cI, 4097, .inl od)), (a4, .inl (cI, 4097, .inl sk)), (a6, .inl (cI, 258, .inl me)), (a7, .inl (cI, 8, .inl si)), (a14, .inl (cJ, 6, .inr (.inl su))), (a15, .inl (cJ, 6, .inr (.inl ke)))] := hD.sub [7, 8, 0, 1, 2, 3, 4, 5, 6] (by decide) ks_9_7_8_0_1_2_3_4_5_6
      have hw73 : r73 = kb_p (fr < cn ∧ kd fr = nI 4) := hw73
      subst hw73
      refine kx_joinl (D := D) (cl := vwCl) (A := A) (ws := [(o, .inr (0, [.int (nI th), .int (nI cn), .ref a0, .ref a1, .ref a2, .ref a3, .ref a4, .ref a5, .int (nI mn), .ref a6, .ref a7, .int (nI ps), .int (nI bk), .ref a8, .ref a9, .ref a10, .ref a11, .ref a12, .ref a13, .ref a14, .ref a15, .int (nI kf), .int lb, .int (nI lc), .long lo, .int (nI el), .int (nI ec), .long eo, .int eb, .long ed, .int (nI mp), .int (nI ml), .long md, .long mo, .int mb, .ref a16, .ref a17])), (a0, .inl (cI, 4097, .inl kd)), (a2, .inl (cI, 4097, .inl sr)), (a3, .inl (cI, 4097, .inl od)), (a4, .inl (cI, 4097, .inl sk)), (a6, .inl (cI, 258, .inl me)), (a7, .inl (cI, 8, .inl si)), (a14, .inl (cJ, 6, .inr (.inl su))), (a15, .inl (cJ, 6, .inr (.inl ke)))]) (Y := 90) (ls1 := ls) (st1 := [.long w2]) (if fr < cn ∧ kd fr = nI 4 then ((sk fr).toInt64) else (0 : Int64)) (fun v90 H locs e_v90 hP hD hS => ?_) (fun K90 => ?_)
      · skip
        refine lv_ladd hx hb dd_M_weigh_90 ?_
        refine lv_topl (fun w3 e_w3 => ?_)
        refine lv_lstore (lv' := [(5, .long w3), (4, .int (kb_p (kd fr = nI 4 ∧ od fr &&& nI 2 = nI 2))), (0, .ref o), (1, .int (nI fr)), (2, .int (nI b)), (3, .int (nI n))]) hx hb dd_M_weigh_91 hl (by decide) rfl (fun ls hl => ?_)
        refine lv_aload_n hx hb dd_M_weigh_93 rfl (lv_at hl 2 rfl) ?_
        refine va_get (D := D) (ci := 0) (v := .ref a6) (C := rr_M) (T := tt_M) (N := 37) hx hb hts hin0 hown hK hP 0 kg_9_0 rfl 9 (by decide) lk6 (fun _ h9 => h9) rfl dd_M_weigh_94 ?_
        refine lv_iload_n hx hb dd_M_weigh_97 rfl (lv_at hl 5 rfl) ?_
        refine lv_aload_n hx hb dd_M_weigh_98 rfl (lv_at hl 2 rfl) ?_
        refine va_get (D := D) (ci := 0) (v := .int (nI mn)) (C := rr_M) (T := tt_M) (N := 37) hx hb hts hin0 hown hK hP 0 kg_9_0 rfl 8 (by decide) lk7 (fun _ h9 => h9) rfl dd_M_weigh_99 ?_
        refine kx_joini (D := D) (cl := vwCl) (A := A) (ws := [(o, .inr (0, [.int (nI th), .int (nI cn), .ref a0, .ref a1, .ref a2, .ref a3, .ref a4, .ref a5, .int (nI mn), .ref a6, .ref a7, .int (nI ps), .int (nI bk), .ref a8, .ref a9, .ref a10, .ref a11, .ref a12, .ref a13, .ref a14, .ref a15, .int (nI kf), .int lb, .int (nI lc), .long lo, .int (nI el), .int (nI ec), .long eo, .int eb, .long ed, .int (nI mp), .int (nI ml), .long md, .long mo, .int mb, .ref a16, .ref a17])), (a0, .inl (cI, 4097, .inl kd)), (a2, .inl (cI, 4097, .inl sr)), (a3, .inl (cI, 4097, .inl od)), (a4, .inl (cI, 4097, .inl sk)), (a6, .inl (cI, 258, .inl me)), (a7, .inl (cI, 8, .inl si)), (a14, .inl (cJ, 6, .inr (.inl su))), (a15, .inl (cJ, 6, .inr (.inl ke)))]) (Y := 113) (ls1 := ls) (st1 := [.ref a6]) (if mn ≤ n then (nI mn) else (nI n)) (fun v113 H locs e_v113 hP hD hS => ?_) (fun K113 => ?_)
        · skip
          obtain rfl : v113 = nI (pm_mi n mn) := by rw [e_v113]; unfold pm_mi; split <;> rfl
          have hmi := @pm_mi_le n mn
          refine kx_iald (q0 := 5) (t0 := 0) hx hb dd_M_weigh_113 hK hP kg_9_5 rfl (by omega) (by omega) ?_
          refine lv_i2l hx hb dd_M_weigh_114 rfl ?_
          refine lv_lload hx hb dd_M_weigh_115 (lv_at hl 0 rfl) ?_
          refine lv_lsub hx hb dd_M_weigh_117 ?_
          refine lv_topl (fun ex e_ex => ?_)
          refine lv_lstore (lv' := [(7, .long ex), (5, .long w3), (4, .int (kb_p (kd fr = nI 4 ∧ od fr &&& nI 2 = nI 2))), (0, .ref o), (1, .int (nI fr)), (2, .int (nI b)), (3, .int (nI n))]) hx hb dd_M_weigh_118 hl (by decide) rfl (fun ls hl => ?_)
          refine lv_iload hx hb dd_M_weigh_120 (lv_at hl 2 rfl) ?_
          refine kx_joinl (D := D) (cl := vwCl) (A := A) (ws := [(o, .inr (0, [.int (nI th), .int (nI cn), .ref a0, .ref a1, .ref a2, .ref a3, .ref a4, .ref a5, .int (nI mn), .ref a6, .ref a7, .int (nI ps), .int (nI bk), .ref a8, .ref a9, .ref a10, .ref a11, .ref a12, .ref a13, .ref a14, .ref a15, .int (nI kf), .int lb, .int (nI lc), .long lo, .int (nI el), .int (nI ec), .long eo, .int eb, .long ed, .int (nI mp), .int (nI ml), .long md, .long mo, .int mb, .ref a16, .ref a17])), (a0, .inl (cI, 4097, .inl kd)), (a2, .inl (cI, 4097, .inl sr)), (a3, .inl (cI, 4097, .inl od)), (a4, .inl (cI, 4097, .inl sk)), (a6, .inl (cI, 258, .inl me)), (a7, .inl (cI, 8, .inl si)), (a14, .inl (cJ, 6, .inr (.inl su))), (a15, .inl (cJ, 6, .inr (.inl ke)))]) (Y := 140) (ls1 := ls) (st1 := []) (if kd fr = nI 4 ∧ od fr &&& nI 2 = nI 2 then (su 1) else (ke 1)) (fun v140 H locs e_v140 hP hD hS => ?_) (fun K140 => ?_)
          · skip
            refine lv_lstore (lv' := [(9, .long v140), (7, .long ex), (5, .long w3), (4, .int (kb_p (kd fr = nI 4 ∧ od fr &&& nI 2 = nI 2))), (0, .ref o), (1, .int (nI fr)), (2, .int (nI b)), (3, .int (nI n))]) hx hb dd_M_weigh_140 hl (by decide) rfl (fun ls hl => ?_)
            refine lv_iload hx hb dd_M_weigh_142 (lv_at hl 3 rfl) ?_
            refine kx_joinl (D := D) (cl := vwCl) (A := A) (ws := [(o, .inr (0, [.int (nI th), .int (nI cn), .ref a0, .ref a1, .ref a2, .ref a3, .ref a4, .ref a5, .int (nI mn), .ref a6, .ref a7, .int (nI ps), .int (nI bk), .ref a8, .ref a9, .ref a10, .ref a11, .ref a12, .ref a13, .ref a14, .ref a15, .int (nI kf), .int lb, .int (nI lc), .long lo, .int (nI el), .int (nI ec), .long eo, .int eb, .long ed, .int (nI mp), .int (nI ml), .long md, .long mo, .int mb, .ref a16, .ref a17])), (a0, .inl (cI, 4097, .inl kd)), (a2, .inl (cI, 4097, .inl sr)), (a3, .inl (cI, 4097, .inl od)), (a4, .inl (cI, 4097, .inl sk)), (a6, .inl (cI, 258, .inl me)), (a7, .inl (cI, 8, .inl si)), (a14, .inl (cJ, 6, .inr (.inl su))), (a15, .inl (cJ, 6, .inr (.inl ke)))]) (Y := 190) (ls1 := ls) (st1 := []) (if kd fr = nI 4 ∧ od fr &&& nI 2 = nI 2 then (((su 2) + (su 3)) + (su 4)) else (((ke 2) + (ke 3)) + (ke 4))) (fun v190 H locs e_v190 hP hD hS => ?_) (fun K190 => ?_)
            · skip
              refine lv_lstore (lv' := [(11, .long v190), (9, .long v140), (7, .long ex), (5, .long w3), (4, .int (kb_p (kd fr = nI 4 ∧ od fr &&& nI 2 = nI 2))), (0, .ref o), (1, .int (nI fr)), (2, .int (nI b)), (3, .int (nI n))]) hx hb dd_M_weigh_190 hl (by decide) rfl (fun ls hl => ?_)
              refine lv_iload hx hb dd_M_weigh_192 (lv_at hl 4 rfl) ?_
              refine kx_joinl (D := D) (cl := vwCl) (A := A) (ws := [(o, .inr (0, [.int (nI th), .int (nI cn), .ref a0, .ref a1, .ref a2, .ref a3, .ref a4, .ref a5, .int (nI mn), .ref a6, .ref a7, .int (nI ps), .int (nI bk), .ref a8, .ref a9, .ref a10, .ref a11, .ref a12, .ref a13, .ref a14, .ref a15, .int (nI kf), .int lb, .int (nI lc), .long lo, .int (nI el), .int (nI ec), .long eo, .int eb, .long ed, .int (nI mp), .int (nI ml), .long md, .long mo, .int mb, .ref a16, .ref a17])), (a0, .inl (cI, 4097, .inl kd)), (a2, .inl (cI, 4097, .inl sr)), (a3, .inl (cI, 4097, .inl od)), (a4, .inl (cI, 4097, .inl sk)), (a6, .inl (cI, 258, .inl me)), (a7, .inl (cI, 8, .inl si)), (a14, .inl (cJ, 6, .inr (.inl su))), (a15, .inl (cJ, 6, .inr (.inl ke)))]) (Y := 212) (ls1 := ls) (st1 := []) (if kd fr = nI 4 ∧ od fr &&& nI 2 = nI 2 then (su 5) else (ke 5)) (fun v212 H locs e_v212 hP hD hS => ?_) (fun K212 => ?_)
              · skip
                refine lv_aload_n hx hb dd_M_weigh_212 rfl (lv_at hl 5 rfl) ?_
                refine va_get (D := D) (ci := 0) (v := .ref a7) (C := rr_M) (T := tt_M) (N := 37) hx hb hts hin0 hown hK hP 0 kg_9_0 rfl 10 (by decide) lk3 (fun _ h9 => h9) rfl dd_M_weigh_213 ?_
                refine lv_iconst (v := nI 3) hx hb dd_M_weigh_216 (by decide) ?_
                refine kx_iald (q0 := 6) (t0 := 0) hx hb dd_M_weigh_217 hK hP kg_9_6 rfl (by omega) (by omega) ?_
                refine lv_i2l hx hb dd_M_weigh_218 rfl ?_
                refine lv_ladd hx hb dd_M_weigh_219 ?_
                refine lv_aload_n hx hb dd_M_weigh_220 rfl (lv_at hl 5 rfl) ?_
                refine va_get (D := D) (ci := 0) (v := .ref a7) (C := rr_M) (T := tt_M) (N := 37) hx hb hts hin0 hown hK hP 0 kg_9_0 rfl 10 (by decide) lk3 (fun _ h9 => h9) rfl dd_M_weigh_221 ?_
                refine lv_bipush (v := nI 7) hx hb dd_M_weigh_224 (by decide) ?_
                refine kx_iald (q0 := 6) (t0 := 0) hx hb dd_M_weigh_226 hK hP kg_9_6 rfl (by omega) (by omega) ?_
                refine lv_i2l hx hb dd_M_weigh_227 rfl ?_
                refine lv_ladd hx hb dd_M_weigh_228 ?_
                refine lv_topl (fun le e_le => ?_)
                refine lv_lstore (lv' := [(13, .long le), (11, .long v190), (9, .long v140), (7, .long ex), (5, .long w3), (4, .int (kb_p (kd fr = nI 4 ∧ od fr &&& nI 2 = nI 2))), (0, .ref o), (1, .int (nI fr)), (2, .int (nI b)), (3, .int (nI n))]) hx hb dd_M_weigh_229 hl (by decide) rfl (fun ls hl => ?_)
                refine lv_iconst (v := nI 0) hx hb dd_M_weigh_231 (by decide) ?_
                refine lv_istore (lv' := [(15, .int (nI 0)), (13, .long le), (11, .long v190), (9, .long v140), (7, .long ex), (5, .long w3), (4, .int (kb_p (kd fr = nI 4 ∧ od fr &&& nI 2 = nI 2))), (0, .ref o), (1, .int (nI fr)), (2, .int (nI b)), (3, .int (nI n))]) hx hb dd_M_weigh_232 hl (by decide) rfl (fun ls hl => ?_)
                refine lv_iload hx hb dd_M_weigh_234 (lv_at hl 0 rfl) ?_
                refine lv_bipush (v := nI 8) hx hb dd_M_weigh_236 (by decide) ?_
                refine lv_icmp_ge (tgt := 309) hx hb dd_M_weigh_238 (by decide) (fun h => absurd h (by decide +kernel)) (fun _ => ?_)
                refine lv_lload hx hb dd_M_weigh_241 (lv_at hl 3 rfl) ?_
                refine lv_aload_n hx hb dd_M_weigh_243 rfl (lv_at hl 7 rfl) ?_
                refine va_get (D := D) (ci := 0) (v := .ref a7) (C := rr_M) (T := tt_M) (N := 37) hx hb hts hin0 hown hK hP 0 kg_9_0 rfl 10 (by decide) lk3 (fun _ h9 => h9) rfl dd_M_weigh_244 ?_
                refine lv_iload hx hb dd_M_weigh_247 (lv_at hl 0 rfl) ?_
                refine lv_iconst (v := nI 2) hx hb dd_M_weigh_249 (by decide) ?_
                refine kx_iadd hx hb dd_M_weigh_250 ?_
                refine kx_iald (q0 := 6) (t0 := 0) hx hb dd_M_weigh_251 hK hP kg_9_6 rfl (by omega) (by omega) ?_
                refine kx_joinl (D := D) (cl := vwCl) (A := A) (ws := [(o, .inr (0, [.int (nI th), .int (nI cn), .ref a0, .ref a1, .ref a2, .ref a3, .ref a4, .ref a5, .int (nI mn), .ref a6, .ref a7, .int (nI ps), .int (nI bk), .ref a8, .ref a9, .ref a10, .ref a11, .ref a12, .ref a13, .ref a14, .ref a15, .int (nI kf), .int lb, .int (nI lc), .long lo, .int (nI el), .int (nI ec), .long eo, .int eb, .long ed, .int (nI mp), .int (nI ml), .long md, .long mo, .int mb, .ref a16, .ref a17])), (a0, .inl (cI, 4097, .inl kd)), (a2, .inl (cI, 4097, .inl sr)), (a3, .inl (cI, 4097, .inl od)), (a4, .inl (cI, 4097, .inl sk)), (a6, .inl (cI, 258, .inl me)), (a7, .inl (cI, 8, .inl si)), (a14, .inl (cJ, 6, .inr (.inl su))), (a15, .inl (cJ, 6, .inr (.inl ke)))]) (Y := 269) (ls1 := ls) (st1 := [.long v140]) (if (si 2) = 0 then ((si 1).toInt64) else (0 : Int64)) (fun v269 H locs e_v269 hP hD hS => ?_) (fun K269 => ?_)
                · skip
                  refine lv_ladd hx hb dd_M_weigh_269 ?_
                  refine lv_topl (fun pl e_pl => ?_)
                  refine lv_lstore (lv' := [(9, .long pl), (15, .int (nI 0)), (13, .long le), (11, .long v190), (7, .long ex), (5, .long w3), (4, .int (kb_p (kd fr = nI 4 ∧ od fr &&& nI 2 = nI 2))), (0, .ref o), (1, .int (nI fr)), (2, .int (nI b)), (3, .int (nI n))]) hx hb dd_M_weigh_270 hl (by decide) rfl (fun ls hl => ?_)
                  refine lv_lload hx hb dd_M_weigh_272 (lv_at hl 3 rfl) ?_
                  refine lv_aload_n hx hb dd_M_weigh_274 rfl (lv_at hl 7 rfl) ?_
                  refine va_get (D := D) (ci := 0) (v := .ref a7) (C := rr_M) (T := tt_M) (N := 37) hx hb hts hin0 hown hK hP 0 kg_9_0 rfl 10 (by decide) lk3 (fun _ h9 => h9) rfl dd_M_weigh_275 ?_
                  refine lv_iload hx hb dd_M_weigh_278 (lv_at hl 1 rfl) ?_
                  refine lv_iconst (v := nI 2) hx hb dd_M_weigh_280 (by decide) ?_
                  refine kx_iadd hx hb dd_M_weigh_281 ?_
                  refine kx_iald (q0 := 6) (t0 := 0) hx hb dd_M_weigh_282 hK hP kg_9_6 rfl (by omega) (by omega) ?_
                  refine kx_joinl (D := D) (cl := vwCl) (A := A) (ws := [(o, .inr (0, [.int (nI th), .int (nI cn), .ref a0, .ref a1, .ref a2, .ref a3, .ref a4, .ref a5, .int (nI mn), .ref a6, .ref a7, .int (nI ps), .int (nI bk), .ref a8, .ref a9, .ref a10, .ref a11, .ref a12, .ref a13, .ref a14, .ref a15, .int (nI kf), .int lb, .int (nI lc), .long lo, .int (nI el), .int (nI ec), .long eo, .int eb, .long ed, .int (nI mp), .int (nI ml), .long md, .long mo, .int mb, .ref a16, .ref a17])), (a0, .inl (cI, 4097, .inl kd)), (a2, .inl (cI, 4097, .inl sr)), (a3, .inl (cI, 4097, .inl od)), (a4, .inl (cI, 4097, .inl sk)), (a6, .inl (cI, 258, .inl me)), (a7, .inl (cI, 8, .inl si)), (a14, .inl (cJ, 6, .inr (.inl su))), (a15, .inl (cJ, 6, .inr (.inl ke)))]) (Y := 300) (ls1 := ls) (st1 := [.long v190]) (if (si 2) ≤ 0 then (0 : Int64) else ((si 1).toInt64)) (fun v300 H locs e_v300 hP hD hS => ?_) (fun K300 => ?_)
                  · skip
                    refine lv_ladd hx hb dd_M_weigh_300 ?_
                    refine lv_topl (fun fa e_fa => ?_)
                    refine lv_lstore (lv' := [(11, .long fa), (9, .long pl), (15, .int (nI 0)), (13, .long le), (7, .long ex), (5, .long w3), (4, .int (kb_p (kd fr = nI 4 ∧ od fr &&& nI 2 = nI 2))), (0, .ref o), (1, .int (nI fr)), (2, .int (nI b)), (3, .int (nI n))]) hx hb dd_M_weigh_301 hl (by decide) rfl (fun ls hl => ?_)
                    refine lv_iinc (v := nI 4) (lv' := [(15, .int (nI 4)), (11, .long fa), (9, .long pl), (13, .long le), (7, .long ex), (5, .long w3), (4, .int (kb_p (kd fr = nI 4 ∧ od fr &&& nI 2 = nI 2))), (0, .ref o), (1, .int (nI fr)), (2, .int (nI b)), (3, .int (nI n))]) hx hb dd_M_weigh_303 hl (k := 2) rfl (nI_add 0 4) (by decide) rfl (fun ls hl => ?_)
                    refine lv_goto (tgt := 234) hx hb dd_M_weigh_306 (by decide) ?_
                    refine lv_iload hx hb dd_M_weigh_234 (lv_at hl 0 rfl) ?_
                    refine lv_bipush (v := nI 8) hx hb dd_M_weigh_236 (by decide) ?_
                    refine lv_icmp_ge (tgt := 309) hx hb dd_M_weigh_238 (by decide) (fun h => absurd h (by decide +kernel)) (fun _ => ?_)
                    refine lv_lload hx hb dd_M_weigh_241 (lv_at hl 2 rfl) ?_
                    refine lv_aload_n hx hb dd_M_weigh_243 rfl (lv_at hl 7 rfl) ?_
                    refine va_get (D := D) (ci := 0) (v := .ref a7) (C := rr_M) (T := tt_M) (N := 37) hx hb hts hin0 hown hK hP 0 kg_9_0 rfl 10 (by decide) lk3 (fun _ h9 => h9) rfl dd_M_weigh_244 ?_
                    refine lv_iload hx hb dd_M_weigh_247 (lv_at hl 0 rfl) ?_
                    refine lv_iconst (v := nI 2) hx hb dd_M_weigh_249 (by decide) ?_
                    refine kx_iadd hx hb dd_M_weigh_250 ?_
                    refine kx_iald (q0 := 6) (t0 := 0) hx hb dd_M_weigh_251 hK hP kg_9_6 rfl (by omega) (by omega) ?_
                    refine kx_joinl (D := D) (cl := vwCl) (A := A) (ws := [(o, .inr (0, [.int (nI th), .int (nI cn), .ref a0, .ref a1, .ref a2, .ref a3, .ref a4, .ref a5, .int (nI mn), .ref a6, .ref a7, .int (nI ps), .int (nI bk), .ref a8, .ref a9, .ref a10, .ref a11, .ref a12, .ref a13, .ref a14, .ref a15, .int (nI kf), .int lb, .int (nI lc), .long lo, .int (nI el), .int (nI ec), .long eo, .int eb, .long ed, .int (nI mp), .int (nI ml), .long md, .long mo, .int mb, .ref a16, .ref a17])), (a0, .inl (cI, 4097, .inl kd)), (a2, .inl (cI, 4097, .inl sr)), (a3, .inl (cI, 4097, .inl od)), (a4, .inl (cI, 4097, .inl sk)), (a6, .inl (cI, 258, .inl me)), (a7, .inl (cI, 8, .inl si)), (a14, .inl (cJ, 6, .inr (.inl su))), (a15, .inl (cJ, 6, .inr (.inl ke)))]) (Y := 269) (ls1 := ls) (st1 := [.long pl]) (if (si 6) = 0 then ((si 5).toInt64) else (0 : Int64)) (fun v269_2 H locs e_v269_2 hP hD hS => ?_) (fun K269_2 => ?_)
                    · skip
                      refine lv_ladd hx hb dd_M_weigh_269 ?_
                      refine lv_topl (fun pl_2 e_pl_2 => ?_)
                      refine lv_lstore (lv' := [(9, .long pl_2), (15, .int (nI 4)), (11, .long fa), (13, .long le), (7, .long ex), (5, .long w3), (4, .int (kb_p (kd fr = nI 4 ∧ od fr &&& nI 2 = nI 2))), (0, .ref o), (1, .int (nI fr)), (2, .int (nI b)), (3, .int (nI n))]) hx hb dd_M_weigh_270 hl (by decide) rfl (fun ls hl => ?_)
                      refine lv_lload hx hb dd_M_weigh_272 (lv_at hl 2 rfl) ?_
                      refine lv_aload_n hx hb dd_M_weigh_274 rfl (lv_at hl 7 rfl) ?_
                      refine va_get (D := D) (ci := 0) (v := .ref a7) (C := rr_M) (T := tt_M) (N := 37) hx hb hts hin0 hown hK hP 0 kg_9_0 rfl 10 (by decide) lk3 (fun _ h9 => h9) rfl dd_M_weigh_275 ?_
                      refine lv_iload hx hb dd_M_weigh_278 (lv_at hl 1 rfl) ?_
                      refine lv_iconst (v := nI 2) hx hb dd_M_weigh_280 (by decide) ?_
                      refine kx_iadd hx hb dd_M_weigh_281 ?_
                      refine kx_iald (q0 := 6) (t0 := 0) hx hb dd_M_weigh_282 hK hP kg_9_6 rfl (by omega) (by omega) ?_
                      refine kx_joinl (D := D) (cl := vwCl) (A := A) (ws := [(o, .inr (0, [.int (nI th), .int (nI cn), .ref a0, .ref a1, .ref a2, .ref a3, .ref a4, .ref a5, .int (nI mn), .ref a6, .ref a7, .int (nI ps), .int (nI bk), .ref a8, .ref a9, .ref a10, .ref a11, .ref a12, .ref a13, .ref a14, .ref a15, .int (nI kf), .int lb, .int (nI lc), .long lo, .int (nI el), .int (nI ec), .long eo, .int eb, .long ed, .int (nI mp), .int (nI ml), .long md, .long mo, .int mb, .ref a16, .ref a17])), (a0, .inl (cI, 4097, .inl kd)), (a2, .inl (cI, 4097, .inl sr)), (a3, .inl (cI, 4097, .inl od)), (a4, .inl (cI, 4097, .inl sk)), (a6, .inl (cI, 258, .inl me)), (a7, .inl (cI, 8, .inl si)), (a14, .inl (cJ, 6, .inr (.inl su))), (a15, .inl (cJ, 6, .inr (.inl ke)))]) (Y := 300) (ls1 := ls) (st1 := [.long fa]) (if (si 6) ≤ 0 then (0 : Int64) else ((si 5).toInt64)) (fun v300_2 H locs e_v300_2 hP hD hS => ?_) (fun K300_2 => ?_)
                      · skip
                        refine lv_ladd hx hb dd_M_weigh_300 ?_
                        refine lv_topl (fun fa_2 e_fa_2 => ?_)
                        refine lv_lstore (lv' := [(11, .long fa_2), (9, .long pl_2), (15, .int (nI 4)), (13, .long le), (7, .long ex), (5, .long w3), (4, .int (kb_p (kd fr = nI 4 ∧ od fr &&& nI 2 = nI 2))), (0, .ref o), (1, .int (nI fr)), (2, .int (nI b)), (3, .int (nI n))]) hx hb dd_M_weigh_301 hl (by decide) rfl (fun ls hl => ?_)
                        refine lv_iinc (v := nI 8) (lv' := [(15, .int (nI 8)), (11, .long fa_2), (9, .long pl_2), (13, .long le), (7, .long ex), (5, .long w3), (4, .int (kb_p (kd fr = nI 4 ∧ od fr &&& nI 2 = nI 2))), (0, .ref o), (1, .int (nI fr)), (2, .int (nI b)), (3, .int (nI n))]) hx hb dd_M_weigh_303 hl (k := 2) rfl (nI_add 4 4) (by decide) rfl (fun ls hl => ?_)
                        refine lv_goto (tgt := 234) hx hb dd_M_weigh_306 (by decide) ?_
                        refine lv_iload hx hb dd_M_weigh_234 (lv_at hl 0 rfl) ?_
                        refine lv_bipush (v := nI 8) hx hb dd_M_weigh_236 (by decide) ?_
                        refine lv_icmp_ge (tgt := 309) hx hb dd_M_weigh_238 (by decide) (fun _ => ?_) (fun h => absurd (by decide +kernel) h)
                        refine lv_aload_n hx hb dd_M_weigh_309 rfl (lv_at hl 7 rfl) ?_
                        refine lv_lconst (v := 0) hx hb dd_M_weigh_310 (by decide) ?_
                        refine va_put (D := D) (ci := 0) (v := .long (0 : Int64)) (ty := .long) (C := rr_M) (T := tt_M) (N := 37) hx hb hts hin0 ft_M ft_M_ok nn_M hown hK hP hD hS 0 kg_9_0 rfl 24 (by decide) lk8 (fun _ h9 => h9) rfl (by decide +kernel) rfl rfl (Nat.le_of_ble_eq_true rfl) dd_M_weigh_311 (fun H locs hP hD hS => ?_)
                        have hP : va_P D vwCl [(o, .inr (0, [.int (nI th), .int (nI cn), .ref a0, .ref a1, .ref a2, .ref a3, .ref a4, .ref a5, .int (nI mn), .ref a6, .ref a7, .int (nI ps), .int (nI bk), .ref a8, .ref a9, .ref a10, .ref a11, .ref a12, .ref a13, .ref a14, .ref a15, .int (nI kf), .int lb, .int (nI lc), .long (0 : Int64), .int (nI el), .int (nI ec), .long eo, .int eb, .long ed, .int (nI mp), .int (nI ml), .long md, .long mo, .int mb, .ref a16, .ref a17])), (a0, .inl (cI, 4097, .inl kd)), (a2, .inl (cI, 4097, .inl sr)), (a3, .inl (cI, 4097, .inl od)), (a4, .inl (cI, 4097, .inl sk)), (a6, .inl (cI, 258, .inl me)), (a7, .inl (cI, 8, .inl si)), (a14, .inl (cJ, 6, .inr (.inl su))), (a15, .inl (cJ, 6, .inr (.inl ke)))] H := kx_cP kz_9_0 hP
                        have hD : va_D A [(o, .inr (0, [.int (nI th), .int (nI cn), .ref a0, .ref a1, .ref a2, .ref a3, .ref a4, .ref a5, .int (nI mn), .ref a6, .ref a7, .int (nI ps), .int (nI bk), .ref a8, .ref a9, .ref a10, .ref a11, .ref a12, .ref a13, .ref a14, .ref a15, .int (nI kf), .int lb, .int (nI lc), .long (0 : Int64), .int (nI el), .int (nI ec), .long eo, .int eb, .long ed, .int (nI mp), .int (nI ml), .long md, .long mo, .int mb, .ref a16, .ref a17])), (a0, .inl (cI, 4097, .inl kd)), (a2, .inl (cI, 4097, .inl sr)), (a3, .inl (cI, 4097, .inl od)), (a4, .inl (cI, 4097, .inl sk)), (a6, .inl (cI, 258, .inl me)), (a7, .inl (cI, 8, .inl si)), (a14, .inl (cJ, 6, .inr (.inl su))), (a15, .inl (cJ, 6, .inr (.inl ke)))] := kx_cD kz_9_0 hD
                        refine lv_lload hx hb dd_M_weigh_314 (lv_at hl 4 rfl) ?_
                        refine lv_lconst (v := 0) hx hb dd_M_weigh_316 (by decide) ?_
                        refine W.lcmp hx hb dd_M_weigh_317 ?_
                        refine lv_if_lt (tgt := 377) hx hb dd_M_weigh_318 (by decide) (fun c318 => ?_) (fun c318 => ?_)
                        · skip
                          have c318 := (lg_cmp_lt _ _).mp c318
                          refine lv_lload hx hb dd_M_weigh_377 (lv_at hl 3 rfl) ?_
                          refine lv_lload hx hb dd_M_weigh_379 (lv_at hl 4 rfl) ?_
                          refine lv_lneg hx hb dd_M_weigh_381 ?_
                          refine W.lcmp hx hb dd_M_weigh_382 ?_
                          refine lv_if_ge (tgt := 411) hx hb dd_M_weigh_383 (by decide) (fun c383 => ?_) (fun c383 => ?_)
                          · skip
                            have c383 := (lg_cmp_ge _ _).mp c383
                            refine lv_aload_n hx hb dd_M_weigh_411 rfl (lv_at hl 7 rfl) ?_
                            refine lv_lload hx hb dd_M_weigh_412 (lv_at hl 4 rfl) ?_
                            refine lv_lneg hx hb dd_M_weigh_414 ?_
                            refine lv_lload hx hb dd_M_weigh_415 (lv_at hl 3 rfl) ?_
                            refine kx_calli (wr := [(o, .inr (0, [.int (nI th), .int (nI cn), .ref a0, .ref a1, .ref a2, .ref a3, .ref a4, .ref a5, .int (nI mn), .ref a6, .ref a7, .int (nI ps), .int (nI bk), .ref a8, .ref a9, .ref a10, .ref a11, .ref a12, .ref a13, .ref a14, .ref a15, .int (nI kf), .int lb, .int (nI lc), .long (0 : Int64), .int (nI el), .int (nI ec), .long eo, .int eb, .long ed, .int (nI mp), .int (nI ml), .long md, .long mo, .int mb, .ref a16, .ref a17])), (a0, .inl (cI, 4097, .inl kd)), (a2, .inl (cI, 4097, .inl sr)), (a3, .inl (cI, 4097, .inl od)), (a4, .inl (cI, 4097, .inl sk)), (a6, .inl (cI, 258, .inl me)), (a7, .inl (cI, 8, .inl si)), (a14, .inl (cJ, 6, .inr (.inl su))), (a15, .inl (cJ, 6, .inr (.inl ke)))]) (va_runS (As := [.long (-ex), .long le]) (rest := [.ref o]) ⟨hx, hb, hml, hown, hts⟩ (ct_M_badness l D cI cJ cZ H.size (-ex) le) ⟨(callB_of 2 hts (kx_good kw_1009) rfl rfl rfl (hts _ (kx_m kw_53)) (hts _ (kx_m kw_1007)) (by decide +kernel) ⟨Nat.le_of_ble_eq_true rfl, Nat.le_of_ble_eq_true rfl⟩), (hts _ (kx_m kw_1008))⟩ (kx_preS hK hN (hP.sub [] kt_9_) (hD.sub [] (by decide) ks_9_)) rfl rfl hl.1 rfl (lv_room (Nat.le_of_ble_eq_true rfl)) dd_M_weigh_417 ⟨Nat.le_of_ble_eq_true rfl, Nat.le_of_ble_eq_true rfl⟩) hP hD hS hA [] [0, 1, 2, 3, 4, 5, 6, 7, 8] ks_9_ ks_9_0_1_2_3_4_5_6_7_8 (by decide) (by decide) (fun r417 u417 H locs hw417 hP hD hS => ?_)
                            have hP : va_P D vwCl [(o, .inr (0, [.int (nI th), .int (nI cn), .ref a0, .ref a1, .ref a2, .ref a3, .ref a4, .ref a5, .int (nI mn), .ref a6, .ref a7, .int (nI ps), .int (nI bk), .ref a8, .ref a9, .ref a10, .ref a11, .ref a12, .ref a13, .ref a14, .ref a15, .int (nI kf), .int lb, .int (nI lc), .long (0 : Int64), .int (nI el), .int (nI ec), .long eo, .int eb, .long ed, .int (nI mp), .int (nI ml), .long md, .long mo, .int mb, .ref a16, .ref a17])), (a0, .inl (cI, 4097, .inl kd)), (a2, .inl (cI, 4097, .inl sr)), (a3, .inl (cI, 4097, .inl od)), (a4, .inl (cI, 4097, .inl sk)), (a6, .inl (cI, 258, .inl me)), (a7, .inl (cI, 8, .inl si)), (a14, .inl (cJ, 6, .inr (.inl su))), (a15, .inl (cJ, 6, .inr (.inl ke)))] H := hP
                            have hD : va_D A [(o, .inr (0, [.int (nI th), .int (nI cn), .ref a0, .ref a1, .ref a2, .ref a3, .ref a4, .ref a5, .int (nI mn), .ref a6, .ref a7, .int (nI ps), .int (nI bk), .ref a8, .ref a9, .ref a10, .ref a11, .ref a12, .ref a13, .ref a14, .ref a15, .int (nI kf), .int lb, .int (nI lc), .long (0 : Int64), .int (nI el), .int (nI ec), .long eo, .int eb, .long ed, .int (nI mp), .int (nI ml), .long md, .long mo, .int mb, .ref a16, .ref a17])), (a0, .inl (cI, 4097, .inl kd)), (a2, .inl (cI, 4097, .inl sr)), (a3, .inl (cI, 4097, .inl od)), (a4, .inl (cI, 4097, .inl sk)), (a6, .inl (cI, 258, .inl me)), (a7, .inl (cI, 8, .inl si)), (a14, .inl (cJ, 6, .inr (.inl su))), (a15, .inl (cJ, 6, .inr (.inl ke)))] := hD
                            have hw417 : r417 = pm_bad (-ex) le := hw417
                            subst hw417
                            refine lv_topi (fun lb4 e_lb4 => ?_)
                            refine va_put (D := D) (ci := 0) (v := .int lb4) (ty := .int) (C := rr_M) (T := tt_M) (N := 37) hx hb hts hin0 ft_M ft_M_ok nn_M hown hK hP hD hS 0 kg_9_0 rfl 22 (by decide) lk9 (fun _ h9 => h9) rfl (by decide +kernel) rfl rfl (Nat.le_of_ble_eq_true rfl) dd_M_weigh_420 (fun H locs hP hD hS => ?_)
                            have hP : va_P D vwCl [(o, .inr (0, [.int (nI th), .int (nI cn), .ref a0, .ref a1, .ref a2, .ref a3, .ref a4, .ref a5, .int (nI mn), .ref a6, .ref a7, .int (nI ps), .int (nI bk), .ref a8, .ref a9, .ref a10, .ref a11, .ref a12, .ref a13, .ref a14, .ref a15, .int (nI kf), .int lb4, .int (nI lc), .long (0 : Int64), .int (nI el), .int (nI ec), .long eo, .int eb, .long ed, .int (nI mp), .int (nI ml), .long md, .long mo, .int mb, .ref a16, .ref a17])), (a0, .inl (cI, 4097, .inl kd)), (a2, .inl (cI, 4097, .inl sr)), (a3, .inl (cI, 4097, .inl od)), (a4, .inl (cI, 4097, .inl sk)), (a6, .inl (cI, 258, .inl me)), (a7, .inl (cI, 8, .inl si)), (a14, .inl (cJ, 6, .inr (.inl su))), (a15, .inl (cJ, 6, .inr (.inl ke)))] H := kx_cP kz_9_0 hP
                            have hD : va_D A [(o, .inr (0, [.int (nI th), .int (nI cn), .ref a0, .ref a1, .ref a2, .ref a3, .ref a4, .ref a5, .int (nI mn), .ref a6, .ref a7, .int (nI ps), .int (nI bk), .ref a8, .ref a9, .ref a10, .ref a11, .ref a12, .ref a13, .ref a14, .ref a15, .int (nI kf), .int lb4, .int (nI lc), .long (0 : Int64), .int (nI el), .int (nI ec), .long eo, .int eb, .long ed, .int (nI mp), .int (nI ml), .long md, .long mo, .int mb, .ref a16, .ref a17])), (a0, .inl (cI, 4097, .inl kd)), (a2, .inl (cI, 4097, .inl sr)), (a3, .inl (cI, 4097, .inl od)), (a4, .inl (cI, 4097, .inl sk)), (a6, .inl (cI, 258, .inl me)), (a7, .inl (cI, 8, .inl si)), (a14, .inl (cJ, 6, .inr (.inl su))), (a15, .inl (cJ, 6, .inr (.inl ke)))] := kx_cD kz_9_0 hD
                            refine lv_aload_n hx hb dd_M_weigh_423 rfl (lv_at hl 7 rfl) ?_
                            refine lv_aload_n hx hb dd_M_weigh_424 rfl (lv_at hl 7 rfl) ?_
                            refine va_get (D := D) (ci := 0) (v := .int lb4) (C := rr_M) (T := tt_M) (N := 37) hx hb hts hin0 hown hK hP 0 kg_9_0 rfl 22 (by decide) lk9 (fun _ h9 => h9) rfl dd_M_weigh_425 ?_
                            refine lv_bipush (v := nI 12) hx hb dd_M_weigh_428 (by decide) ?_
                            refine kx_joini (D := D) (cl := vwCl) (A := A) (ws := [(o, .inr (0, [.int (nI th), .int (nI cn), .ref a0, .ref a1, .ref a2, .ref a3, .ref a4, .ref a5, .int (nI mn), .ref a6, .ref a7, .int (nI ps), .int (nI bk), .ref a8, .ref a9, .ref a10, .ref a11, .ref a12, .ref a13, .ref a14, .ref a15, .int (nI kf), .int lb4, .int (nI lc), .long (0 : Int64), .int (nI el), .int (nI ec), .long eo, .int eb, .long ed, .int (nI mp), .int (nI ml), .long md, .long mo, .int mb, .ref a16, .ref a17])), (a0, .inl (cI, 4097, .inl kd)), (a2, .inl (cI, 4097, .inl sr)), (a3, .inl (cI, 4097, .inl od)), (a4, .inl (cI, 4097, .inl sk)), (a6, .inl (cI, 258, .inl me)), (a7, .inl (cI, 8, .inl si)), (a14, .inl (cJ, 6, .inr (.inl su))), (a15, .inl (cJ, 6, .inr (.inl ke)))]) (Y := 438) (ls1 := ls) (st1 := [.ref o]) (if lb4 ≤ (nI 12) then (nI 2) else (nI 3)) (fun v438 H locs e_v438 hP hD hS => ?_) (fun K438 => ?_)
                            · skip
                              obtain rfl : v438 = nI (pm_c2 lb4) := by rw [e_v438]; unfold pm_c2; split <;> rfl
                              refine va_put (D := D) (ci := 0) (v := .int (nI (pm_c2 lb4))) (ty := .int) (C := rr_M) (T := tt_M) (N := 37) hx hb hts hin0 ft_M ft_M_ok nn_M hown hK hP hD hS 0 kg_9_0 rfl 23 (by decide) lk10 (fun _ h9 => h9) rfl (by decide +kernel) rfl rfl (Nat.le_of_ble_eq_true rfl) dd_M_weigh_438 (fun H locs hP hD hS => ?_)
                              have hP : va_P D vwCl [(o, .inr (0, [.int (nI th), .int (nI cn), .ref a0, .ref a1, .ref a2, .ref a3, .ref a4, .ref a5, .int (nI mn), .ref a6, .ref a7, .int (nI ps), .int (nI bk), .ref a8, .ref a9, .ref a10, .ref a11, .ref a12, .ref a13, .ref a14, .ref a15, .int (nI kf), .int lb4, .int (nI (pm_c2 lb4)), .long (0 : Int64), .int (nI el), .int (nI ec), .long eo, .int eb, .long ed, .int (nI mp), .int (nI ml), .long md, .long mo, .int mb, .ref a16, .ref a17])), (a0, .inl (cI, 4097, .inl kd)), (a2, .inl (cI, 4097, .inl sr)), (a3, .inl (cI, 4097, .inl od)), (a4, .inl (cI, 4097, .inl sk)), (a6, .inl (cI, 258, .inl me)), (a7, .inl (cI, 8, .inl si)), (a14, .inl (cJ, 6, .inr (.inl su))), (a15, .inl (cJ, 6, .inr (.inl ke)))] H := kx_cP kz_9_0 hP
                              have hD : va_D A [(o, .inr (0, [.int (nI th), .int (nI cn), .ref a0, .ref a1, .ref a2, .ref a3, .ref a4, .ref a5, .int (nI mn), .ref a6, .ref a7, .int (nI ps), .int (nI bk), .ref a8, .ref a9, .ref a10, .ref a11, .ref a12, .ref a13, .ref a14, .ref a15, .int (nI kf), .int lb4, .int (nI (pm_c2 lb4)), .long (0 : Int64), .int (nI el), .int (nI ec), .long eo, .int eb, .long ed, .int (nI mp), .int (nI ml), .long md, .long mo, .int mb, .ref a16, .ref a17])), (a0, .inl (cI, 4097, .inl kd)), (a2, .inl (cI, 4097, .inl sr)), (a3, .inl (cI, 4097, .inl od)), (a4, .inl (cI, 4097, .inl sk)), (a6, .inl (cI, 258, .inl me)), (a7, .inl (cI, 8, .inl si)), (a14, .inl (cJ, 6, .inr (.inl su))), (a15, .inl (cJ, 6, .inr (.inl ke)))] := kx_cD kz_9_0 hD
                              have hX : ex = pm_ex (pm_S (pm_wh kd od fr) su ke) si (if pm_hy kd cn b then (sr b).toInt64 else 0) (if pm_hy kd cn fr then (sk fr).toInt64 else 0) (me (pm_mi n mn)) := by rw [e_ex, e_w3, e_w2, e_w1, e_v27, e_v66, e_v90]; rfl
                              have hPl : pl_2 = pm_pl (pm_S (pm_wh kd od fr) su ke) si := by rw [e_pl_2, e_pl, e_v140, e_v269, e_v269_2]; rfl
                              have hFa : fa_2 = pm_fa (pm_S (pm_wh kd od fr) su ke) si := by rw [e_fa_2, e_fa, e_v190, e_v300, e_v300_2]; first | rfl | (unfold pm_fa pm_S; split <;> rfl)
                              have hLe : le = pm_le (pm_S (pm_wh kd od fr) su ke) si := by rw [e_le, e_v212]; rfl
                              rw [hQ]
                              exact kx_vret hx hb hr hlocks hK hN hS dd_M_weigh_441 (lb4, pm_c2 lb4, ((0 : Int64))) hP hD (by rw [← hX, ← hPl, ← hFa, ← hLe]; first | (rw [e_v340]; simp only [pm_lb, pm_lc, pm_lo, c318, c383, if_true, if_false, and_self]; done) | (rw [e_lb4]; simp only [pm_lb, pm_lc, pm_lo, c318, c383, if_true, if_false, and_self]; done) | (simp only [pm_lb, pm_lc, pm_lo, c318, c383, if_true, if_false, and_self]; done))
                            · skip
                              refine lv_icmp_le (tgt := 437) hx hb dd_M_weigh_430 (by decide) (fun c430 => ?_) (fun c430 => ?_)
                              · skip
                                refine lv_iconst (v := nI 2) hx hb dd_M_weigh_437 (by decide) ?_
                                exact K438 _ H locs (by rw [if_pos c430]) hP hD hS
                              · skip
                                refine lv_iconst (v := nI 3) hx hb dd_M_weigh_433 (by decide) ?_
                                refine lv_goto (tgt := 438) hx hb dd_M_weigh_434 (by decide) ?_
                                exact K438 _ H locs (by rw [if_neg c430]) hP hD hS
                          · skip
                            have c383 : ¬ ((-ex) ≤ le) := fun h => c383 ((lg_cmp_ge _ _).mpr h)
                            refine lv_aload_n hx hb dd_M_weigh_386 rfl (lv_at hl 7 rfl) ?_
                            refine lv_lload hx hb dd_M_weigh_387 (lv_at hl 4 rfl) ?_
                            refine lv_lneg hx hb dd_M_weigh_389 ?_
                            refine lv_lload hx hb dd_M_weigh_390 (lv_at hl 3 rfl) ?_
                            refine lv_lsub hx hb dd_M_weigh_392 ?_
                            refine va_put (D := D) (ci := 0) (v := .long ((-ex) - le)) (ty := .long) (C := rr_M) (T := tt_M) (N := 37) hx hb hts hin0 ft_M ft_M_ok nn_M hown hK hP hD hS 0 kg_9_0 rfl 24 (by decide) lk8 (fun _ h9 => h9) rfl (by decide +kernel) rfl rfl (Nat.le_of_ble_eq_true rfl) dd_M_weigh_393 (fun H locs hP hD hS => ?_)
                            have hP : va_P D vwCl [(o, .inr (0, [.int (nI th), .int (nI cn), .ref a0, .ref a1, .ref a2, .ref a3, .ref a4, .ref a5, .int (nI mn), .ref a6, .ref a7, .int (nI ps), .int (nI bk), .ref a8, .ref a9, .ref a10, .ref a11, .ref a12, .ref a13, .ref a14, .ref a15, .int (nI kf), .int lb, .int (nI lc), .long ((-ex) - le), .int (nI el), .int (nI ec), .long eo, .int eb, .long ed, .int (nI mp), .int (nI ml), .long md, .long mo, .int mb, .ref a16, .ref a17])), (a0, .inl (cI, 4097, .inl kd)), (a2, .inl (cI, 4097, .inl sr)), (a3, .inl (cI, 4097, .inl od)), (a4, .inl (cI, 4097, .inl sk)), (a6, .inl (cI, 258, .inl me)), (a7, .inl (cI, 8, .inl si)), (a14, .inl (cJ, 6, .inr (.inl su))), (a15, .inl (cJ, 6, .inr (.inl ke)))] H := kx_cP kz_9_0 hP
                            have hD : va_D A [(o, .inr (0, [.int (nI th), .int (nI cn), .ref a0, .ref a1, .ref a2, .ref a3, .ref a4, .ref a5, .int (nI mn), .ref a6, .ref a7, .int (nI ps), .int (nI bk), .ref a8, .ref a9, .ref a10, .ref a11, .ref a12, .ref a13, .ref a14, .ref a15, .int (nI kf), .int lb, .int (nI lc), .long ((-ex) - le), .int (nI el), .int (nI ec), .long eo, .int eb, .long ed, .int (nI mp), .int (nI ml), .long md, .long mo, .int mb, .ref a16, .ref a17])), (a0, .inl (cI, 4097, .inl kd)), (a2, .inl (cI, 4097, .inl sr)), (a3, .inl (cI, 4097, .inl od)), (a4, .inl (cI, 4097, .inl sk)), (a6, .inl (cI, 258, .inl me)), (a7, .inl (cI, 8, .inl si)), (a14, .inl (cJ, 6, .inr (.inl su))), (a15, .inl (cJ, 6, .inr (.inl ke)))] := kx_cD kz_9_0 hD
                            refine lv_aload_n hx hb dd_M_weigh_396 rfl (lv_at hl 7 rfl) ?_
                            refine lv_sipush (v := nI 10000) hx hb dd_M_weigh_397 (by decide) ?_
                            refine va_put (D := D) (ci := 0) (v := .int (nI 10000)) (ty := .int) (C := rr_M) (T := tt_M) (N := 37) hx hb hts hin0 ft_M ft_M_ok nn_M hown hK hP hD hS 0 kg_9_0 rfl 22 (by decide) lk9 (fun _ h9 => h9) rfl (by decide +kernel) rfl rfl (Nat.le_of_ble_eq_true rfl) dd_M_weigh_400 (fun H locs hP hD hS => ?_)
                            have hP : va_P D vwCl [(o, .inr (0, [.int (nI th), .int (nI cn), .ref a0, .ref a1, .ref a2, .ref a3, .ref a4, .ref a5, .int (nI mn), .ref a6, .ref a7, .int (nI ps), .int (nI bk), .ref a8, .ref a9, .ref a10, .ref a11, .ref a12, .ref a13, .ref a14, .ref a15, .int (nI kf), .int (nI 10000), .int (nI lc), .long ((-ex) - le), .int (nI el), .int (nI ec), .long eo, .int eb, .long ed, .int (nI mp), .int (nI ml), .long md, .long mo, .int mb, .ref a16, .ref a17])), (a0, .inl (cI, 4097, .inl kd)), (a2, .inl (cI, 4097, .inl sr)), (a3, .inl (cI, 4097, .inl od)), (a4, .inl (cI, 4097, .inl sk)), (a6, .inl (cI, 258, .inl me)), (a7, .inl (cI, 8, .inl si)), (a14, .inl (cJ, 6, .inr (.inl su))), (a15, .inl (cJ, 6, .inr (.inl ke)))] H := kx_cP kz_9_0 hP
                            have hD : va_D A [(o, .inr (0, [.int (nI th), .int (nI cn), .ref a0, .ref a1, .ref a2, .ref a3, .ref a4, .ref a5, .int (nI mn), .ref a6, .ref a7, .int (nI ps), .int (nI bk), .ref a8, .ref a9, .ref a10, .ref a11, .ref a12, .ref a13, .ref a14, .ref a15, .int (nI kf), .int (nI 10000), .int (nI lc), .long ((-ex) - le), .int (nI el), .int (nI ec), .long eo, .int eb, .long ed, .int (nI mp), .int (nI ml), .long md, .long mo, .int mb, .ref a16, .ref a17])), (a0, .inl (cI, 4097, .inl kd)), (a2, .inl (cI, 4097, .inl sr)), (a3, .inl (cI, 4097, .inl od)), (a4, .inl (cI, 4097, .inl sk)), (a6, .inl (cI, 258, .inl me)), (a7, .inl (cI, 8, .inl si)), (a14, .inl (cJ, 6, .inr (.inl su))), (a15, .inl (cJ, 6, .inr (.inl ke)))] := kx_cD kz_9_0 hD
                            refine lv_aload_n hx hb dd_M_weigh_403 rfl (lv_at hl 7 rfl) ?_
                            refine lv_iconst (v := nI 3) hx hb dd_M_weigh_404 (by decide) ?_
                            refine va_put (D := D) (ci := 0) (v := .int (nI 3)) (ty := .int) (C := rr_M) (T := tt_M) (N := 37) hx hb hts hin0 ft_M ft_M_ok nn_M hown hK hP hD hS 0 kg_9_0 rfl 23 (by decide) lk10 (fun _ h9 => h9) rfl (by decide +kernel) rfl rfl (Nat.le_of_ble_eq_true rfl) dd_M_weigh_405 (fun H locs hP hD hS => ?_)
                            have hP : va_P D vwCl [(o, .inr (0, [.int (nI th), .int (nI cn), .ref a0, .ref a1, .ref a2, .ref a3, .ref a4, .ref a5, .int (nI mn), .ref a6, .ref a7, .int (nI ps), .int (nI bk), .ref a8, .ref a9, .ref a10, .ref a11, .ref a12, .ref a13, .ref a14, .ref a15, .int (nI kf), .int (nI 10000), .int (nI 3), .long ((-ex) - le), .int (nI el), .int (nI ec), .long eo, .int eb, .long ed, .int (nI mp), .int (nI ml), .long md, .long mo, .int mb, .ref a16, .ref a17])), (a0, .inl (cI, 4097, .inl kd)), (a2, .inl (cI, 4097, .inl sr)), (a3, .inl (cI, 4097, .inl od)), (a4, .inl (cI, 4097, .inl sk)), (a6, .inl (cI, 258, .inl me)), (a7, .inl (cI, 8, .inl si)), (a14, .inl (cJ, 6, .inr (.inl su))), (a15, .inl (cJ, 6, .inr (.inl ke)))] H := kx_cP kz_9_0 hP
                            have hD : va_D A [(o, .inr (0, [.int (nI th), .int (nI cn), .ref a0, .ref a1, .ref a2, .ref a3, .ref a4, .ref a5, .int (nI mn), .ref a6, .ref a7, .int (nI ps), .int (nI bk), .ref a8, .ref a9, .ref a10, .ref a11, .ref a12, .ref a13, .ref a14, .ref a15, .int (nI kf), .int (nI 10000), .int (nI 3), .long ((-ex) - le), .int (nI el), .int (nI ec), .long eo, .int eb, .long ed, .int (nI mp), .int (nI ml), .long md, .long mo, .int mb, .ref a16, .ref a17])), (a0, .inl (cI, 4097, .inl kd)), (a2, .inl (cI, 4097, .inl sr)), (a3, .inl (cI, 4097, .inl od)), (a4, .inl (cI, 4097, .inl sk)), (a6, .inl (cI, 258, .inl me)), (a7, .inl (cI, 8, .inl si)), (a14, .inl (cJ, 6, .inr (.inl su))), (a15, .inl (cJ, 6, .inr (.inl ke)))] := kx_cD kz_9_0 hD
                            refine lv_goto (tgt := 441) hx hb dd_M_weigh_408 (by decide) ?_
                            have hX : ex = pm_ex (pm_S (pm_wh kd od fr) su ke) si (if pm_hy kd cn b then (sr b).toInt64 else 0) (if pm_hy kd cn fr then (sk fr).toInt64 else 0) (me (pm_mi n mn)) := by rw [e_ex, e_w3, e_w2, e_w1, e_v27, e_v66, e_v90]; rfl
                            have hPl : pl_2 = pm_pl (pm_S (pm_wh kd od fr) su ke) si := by rw [e_pl_2, e_pl, e_v140, e_v269, e_v269_2]; rfl
                            have hFa : fa_2 = pm_fa (pm_S (pm_wh kd od fr) su ke) si := by rw [e_fa_2, e_fa, e_v190, e_v300, e_v300_2]; first | rfl | (unfold pm_fa pm_S; split <;> rfl)
                            have hLe : le = pm_le (pm_S (pm_wh kd od fr) su ke) si := by rw [e_le, e_v212]; rfl
                            rw [hQ]
                            exact kx_vret hx hb hr hlocks hK hN hS dd_M_weigh_441 (nI 10000, 3, (-ex) - le) hP hD (by rw [← hX, ← hPl, ← hFa, ← hLe]; first | (rw [e_v340]; simp only [pm_lb, pm_lc, pm_lo, c318, c383, if_true, if_false, and_self]; done) | (rw [e_lb4]; simp only [pm_lb, pm_lc, pm_lo, c318, c383, if_true, if_false, and_self]; done) | (simp only [pm_lb, pm_lc, pm_lo, c318, c383, if_true, if_false, and_self]; done))
                        · skip
                          have c318 : ¬ (ex < (0 : Int64)) := fun h => c318 ((lg_cmp_lt _ _).mpr h)
                          refine lv_aload_n hx hb dd_M_weigh_321 rfl (lv_at hl 7 rfl) ?_
                          refine lv_lload hx hb dd_M_weigh_322 (lv_at hl 1 rfl) ?_
                          refine lv_lconst (v := 0) hx hb dd_M_weigh_324 (by decide) ?_
                          refine W.lcmp hx hb dd_M_weigh_325 ?_
                          refine kx_joini (D := D) (cl := vwCl) (A := A) (ws := [(o, .inr (0, [.int (nI th), .int (nI cn), .ref a0, .ref a1, .ref a2, .ref a3, .ref a4, .ref a5, .int (nI mn), .ref a6, .ref a7, .int (nI ps), .int (nI bk), .ref a8, .ref a9, .ref a10, .ref a11, .ref a12, .ref a13, .ref a14, .ref a15, .int (nI kf), .int lb, .int (nI lc), .long (0 : Int64), .int (nI el), .int (nI ec), .long eo, .int eb, .long ed, .int (nI mp), .int (nI ml), .long md, .long mo, .int mb, .ref a16, .ref a17])), (a0, .inl (cI, 4097, .inl kd)), (a2, .inl (cI, 4097, .inl sr)), (a3, .inl (cI, 4097, .inl od)), (a4, .inl (cI, 4097, .inl sk)), (a6, .inl (cI, 258, .inl me)), (a7, .inl (cI, 8, .inl si)), (a14, .inl (cJ, 6, .inr (.inl su))), (a15, .inl (cJ, 6, .inr (.inl ke)))]) (Y := 340) (ls1 := ls) (st1 := [.ref o]) (if fa_2 ≤ (0 : Int64) then (pm_bad ex pl_2) else (nI 0)) (fun v340 H locs e_v340 hP hD hS => ?_) (fun K340 => ?_)
                          · skip
                            refine va_put (D := D) (ci := 0) (v := .int v340) (ty := .int) (C := rr_M) (T := tt_M) (N := 37) hx hb hts hin0 ft_M ft_M_ok nn_M hown hK hP hD hS 0 kg_9_0 rfl 22 (by decide) lk9 (fun _ h9 => h9) rfl (by decide +kernel) rfl rfl (Nat.le_of_ble_eq_true rfl) dd_M_weigh_340 (fun H locs hP hD hS => ?_)
                            have hP : va_P D vwCl [(o, .inr (0, [.int (nI th), .int (nI cn), .ref a0, .ref a1, .ref a2, .ref a3, .ref a4, .ref a5, .int (nI mn), .ref a6, .ref a7, .int (nI ps), .int (nI bk), .ref a8, .ref a9, .ref a10, .ref a11, .ref a12, .ref a13, .ref a14, .ref a15, .int (nI kf), .int v340, .int (nI lc), .long (0 : Int64), .int (nI el), .int (nI ec), .long eo, .int eb, .long ed, .int (nI mp), .int (nI ml), .long md, .long mo, .int mb, .ref a16, .ref a17])), (a0, .inl (cI, 4097, .inl kd)), (a2, .inl (cI, 4097, .inl sr)), (a3, .inl (cI, 4097, .inl od)), (a4, .inl (cI, 4097, .inl sk)), (a6, .inl (cI, 258, .inl me)), (a7, .inl (cI, 8, .inl si)), (a14, .inl (cJ, 6, .inr (.inl su))), (a15, .inl (cJ, 6, .inr (.inl ke)))] H := kx_cP kz_9_0 hP
                            have hD : va_D A [(o, .inr (0, [.int (nI th), .int (nI cn), .ref a0, .ref a1, .ref a2, .ref a3, .ref a4, .ref a5, .int (nI mn), .ref a6, .ref a7, .int (nI ps), .int (nI bk), .ref a8, .ref a9, .ref a10, .ref a11, .ref a12, .ref a13, .ref a14, .ref a15, .int (nI kf), .int v340, .int (nI lc), .long (0 : Int64), .int (nI el), .int (nI ec), .long eo, .int eb, .long ed, .int (nI mp), .int (nI ml), .long md, .long mo, .int mb, .ref a16, .ref a17])), (a0, .inl (cI, 4097, .inl kd)), (a2, .inl (cI, 4097, .inl sr)), (a3, .inl (cI, 4097, .inl od)), (a4, .inl (cI, 4097, .inl sk)), (a6, .inl (cI, 258, .inl me)), (a7, .inl (cI, 8, .inl si)), (a14, .inl (cJ, 6, .inr (.inl su))), (a15, .inl (cJ, 6, .inr (.inl ke)))] := kx_cD kz_9_0 hD
                            refine lv_aload_n hx hb dd_M_weigh_343 rfl (lv_at hl 7 rfl) ?_
                            refine lv_aload_n hx hb dd_M_weigh_344 rfl (lv_at hl 7 rfl) ?_
                            refine va_get (D := D) (ci := 0) (v := .int v340) (C := rr_M) (T := tt_M) (N := 37) hx hb hts hin0 hown hK hP 0 kg_9_0 rfl 22 (by decide) lk9 (fun _ h9 => h9) rfl dd_M_weigh_345 ?_
                            refine lv_bipush (v := nI 99) hx hb dd_M_weigh_348 (by decide) ?_
                            refine kx_joini (D := D) (cl := vwCl) (A := A) (ws := [(o, .inr (0, [.int (nI th), .int (nI cn), .ref a0, .ref a1, .ref a2, .ref a3, .ref a4, .ref a5, .int (nI mn), .ref a6, .ref a7, .int (nI ps), .int (nI bk), .ref a8, .ref a9, .ref a10, .ref a11, .ref a12, .ref a13, .ref a14, .ref a15, .int (nI kf), .int v340, .int (nI lc), .long (0 : Int64), .int (nI el), .int (nI ec), .long eo, .int eb, .long ed, .int (nI mp), .int (nI ml), .long md, .long mo, .int mb, .ref a16, .ref a17])), (a0, .inl (cI, 4097, .inl kd)), (a2, .inl (cI, 4097, .inl sr)), (a3, .inl (cI, 4097, .inl od)), (a4, .inl (cI, 4097, .inl sk)), (a6, .inl (cI, 258, .inl me)), (a7, .inl (cI, 8, .inl si)), (a14, .inl (cJ, 6, .inr (.inl su))), (a15, .inl (cJ, 6, .inr (.inl ke)))]) (Y := 371) (ls1 := ls) (st1 := [.ref o]) (if v340 ≤ (nI 99) then (if v340 ≤ (nI 12) then (nI 2) else (nI 1)) else (nI 0)) (fun v371 H locs e_v371 hP hD hS => ?_) (fun K371 => ?_)
                            · skip
                              obtain rfl : v371 = nI (pm_c1 v340) := by rw [e_v371]; unfold pm_c1; split <;> (try split) <;> rfl
                              refine va_put (D := D) (ci := 0) (v := .int (nI (pm_c1 v340))) (ty := .int) (C := rr_M) (T := tt_M) (N := 37) hx hb hts hin0 ft_M ft_M_ok nn_M hown hK hP hD hS 0 kg_9_0 rfl 23 (by decide) lk10 (fun _ h9 => h9) rfl (by decide +kernel) rfl rfl (Nat.le_of_ble_eq_true rfl) dd_M_weigh_371 (fun H locs hP hD hS => ?_)
                              have hP : va_P D vwCl [(o, .inr (0, [.int (nI th), .int (nI cn), .ref a0, .ref a1, .ref a2, .ref a3, .ref a4, .ref a5, .int (nI mn), .ref a6, .ref a7, .int (nI ps), .int (nI bk), .ref a8, .ref a9, .ref a10, .ref a11, .ref a12, .ref a13, .ref a14, .ref a15, .int (nI kf), .int v340, .int (nI (pm_c1 v340)), .long (0 : Int64), .int (nI el), .int (nI ec), .long eo, .int eb, .long ed, .int (nI mp), .int (nI ml), .long md, .long mo, .int mb, .ref a16, .ref a17])), (a0, .inl (cI, 4097, .inl kd)), (a2, .inl (cI, 4097, .inl sr)), (a3, .inl (cI, 4097, .inl od)), (a4, .inl (cI, 4097, .inl sk)), (a6, .inl (cI, 258, .inl me)), (a7, .inl (cI, 8, .inl si)), (a14, .inl (cJ, 6, .inr (.inl su))), (a15, .inl (cJ, 6, .inr (.inl ke)))] H := kx_cP kz_9_0 hP
                              have hD : va_D A [(o, .inr (0, [.int (nI th), .int (nI cn), .ref a0, .ref a1, .ref a2, .ref a3, .ref a4, .ref a5, .int (nI mn), .ref a6, .ref a7, .int (nI ps), .int (nI bk), .ref a8, .ref a9, .ref a10, .ref a11, .ref a12, .ref a13, .ref a14, .ref a15, .int (nI kf), .int v340, .int (nI (pm_c1 v340)), .long (0 : Int64), .int (nI el), .int (nI ec), .long eo, .int eb, .long ed, .int (nI mp), .int (nI ml), .long md, .long mo, .int mb, .ref a16, .ref a17])), (a0, .inl (cI, 4097, .inl kd)), (a2, .inl (cI, 4097, .inl sr)), (a3, .inl (cI, 4097, .inl od)), (a4, .inl (cI, 4097, .inl sk)), (a6, .inl (cI, 258, .inl me)), (a7, .inl (cI, 8, .inl si)), (a14, .inl (cJ, 6, .inr (.inl su))), (a15, .inl (cJ, 6, .inr (.inl ke)))] := kx_cD kz_9_0 hD
                              refine lv_goto (tgt := 441) hx hb dd_M_weigh_374 (by decide) ?_
                              have hX : ex = pm_ex (pm_S (pm_wh kd od fr) su ke) si (if pm_hy kd cn b then (sr b).toInt64 else 0) (if pm_hy kd cn fr then (sk fr).toInt64 else 0) (me (pm_mi n mn)) := by rw [e_ex, e_w3, e_w2, e_w1, e_v27, e_v66, e_v90]; rfl
                              have hPl : pl_2 = pm_pl (pm_S (pm_wh kd od fr) su ke) si := by rw [e_pl_2, e_pl, e_v140, e_v269, e_v269_2]; rfl
                              have hFa : fa_2 = pm_fa (pm_S (pm_wh kd od fr) su ke) si := by rw [e_fa_2, e_fa, e_v190, e_v300, e_v300_2]; first | rfl | (unfold pm_fa pm_S; split <;> rfl)
                              have hLe : le = pm_le (pm_S (pm_wh kd od fr) su ke) si := by rw [e_le, e_v212]; rfl
                              rw [hQ]
                              exact kx_vret hx hb hr hlocks hK hN hS dd_M_weigh_441 (v340, pm_c1 v340, ((0 : Int64))) hP hD (by rw [← hX, ← hPl, ← hFa, ← hLe]; first | (rw [e_v340]; simp only [pm_lb, pm_lc, pm_lo, c318, if_true, if_false, and_self]; done) | (rw [e_lb4]; simp only [pm_lb, pm_lc, pm_lo, c318, if_true, if_false, and_self]; done) | (simp only [pm_lb, pm_lc, pm_lo, c318, if_true, if_false, and_self]; done))
                            · skip
                              refine lv_icmp_le (tgt := 357) hx hb dd_M_weigh_350 (by decide) (fun c350 => ?_) (fun c350 => ?_)
                              · skip
                                refine lv_aload_n hx hb dd_M_weigh_357 rfl (lv_at hl 7 rfl) ?_
                                refine va_get (D := D) (ci := 0) (v := .int v340) (C := rr_M) (T := tt_M) (N := 37) hx hb hts hin0 hown hK hP 0 kg_9_0 rfl 22 (by decide) lk9 (fun _ h9 => h9) rfl dd_M_weigh_358 ?_
                                refine lv_bipush (v := nI 12) hx hb dd_M_weigh_361 (by decide) ?_
                                refine lv_icmp_le (tgt := 370) hx hb dd_M_weigh_363 (by decide) (fun c363 => ?_) (fun c363 => ?_)
                                · skip
                                  refine lv_iconst (v := nI 2) hx hb dd_M_weigh_370 (by decide) ?_
                                  exact K371 _ H locs (by rw [if_pos c350, if_pos c363]) hP hD hS
                                · skip
                                  refine lv_iconst (v := nI 1) hx hb dd_M_weigh_366 (by decide) ?_
                                  refine lv_goto (tgt := 371) hx hb dd_M_weigh_367 (by decide) ?_
                                  exact K371 _ H locs (by rw [if_pos c350, if_neg c363]) hP hD hS
                              · skip
                                refine lv_iconst (v := nI 0) hx hb dd_M_weigh_353 (by decide) ?_
                                refine lv_goto (tgt := 371) hx hb dd_M_weigh_354 (by decide) ?_
                                exact K371 _ H locs (by rw [if_neg c350]) hP hD hS
                          · skip
                            refine lv_if_le (tgt := 333) hx hb dd_M_weigh_326 (by decide) (fun c326 => ?_) (fun c326 => ?_)
                            · skip
                              have c326 := (lg_cmp_le _ _).mp c326
                              refine lv_lload hx hb dd_M_weigh_333 (lv_at hl 4 rfl) ?_
                              refine lv_lload hx hb dd_M_weigh_335 (lv_at hl 2 rfl) ?_
                              refine kx_calli (wr := [(o, .inr (0, [.int (nI th), .int (nI cn), .ref a0, .ref a1, .ref a2, .ref a3, .ref a4, .ref a5, .int (nI mn), .ref a6, .ref a7, .int (nI ps), .int (nI bk), .ref a8, .ref a9, .ref a10, .ref a11, .ref a12, .ref a13, .ref a14, .ref a15, .int (nI kf), .int lb, .int (nI lc), .long (0 : Int64), .int (nI el), .int (nI ec), .long eo, .int eb, .long ed, .int (nI mp), .int (nI ml), .long md, .long mo, .int mb, .ref a16, .ref a17])), (a0, .inl (cI, 4097, .inl kd)), (a2, .inl (cI, 4097, .inl sr)), (a3, .inl (cI, 4097, .inl od)), (a4, .inl (cI, 4097, .inl sk)), (a6, .inl (cI, 258, .inl me)), (a7, .inl (cI, 8, .inl si)), (a14, .inl (cJ, 6, .inr (.inl su))), (a15, .inl (cJ, 6, .inr (.inl ke)))]) (va_runS (As := [.long ex, .long pl_2]) (rest := [.ref o]) ⟨hx, hb, hml, hown, hts⟩ (ct_M_badness l D cI cJ cZ H.size ex pl_2) ⟨(callB_of 2 hts (kx_good kw_1009) rfl rfl rfl (hts _ (kx_m kw_53)) (hts _ (kx_m kw_1007)) (by decide +kernel) ⟨Nat.le_of_ble_eq_true rfl, Nat.le_of_ble_eq_true rfl⟩), (hts _ (kx_m kw_1008))⟩ (kx_preS hK hN (hP.sub [] kt_9_) (hD.sub [] (by decide) ks_9_)) rfl rfl hl.1 rfl (lv_room (Nat.le_of_ble_eq_true rfl)) dd_M_weigh_337 ⟨Nat.le_of_ble_eq_true rfl, Nat.le_of_ble_eq_true rfl⟩) hP hD hS hA [] [0, 1, 2, 3, 4, 5, 6, 7, 8] ks_9_ ks_9_0_1_2_3_4_5_6_7_8 (by decide) (by decide) (fun r337 u337 H locs hw337 hP hD hS => ?_)
                              have hP : va_P D vwCl [(o, .inr (0, [.int (nI th), .int (nI cn), .ref a0, .ref a1, .ref a2, .ref a3, .ref a4, .ref a5, .int (nI mn), .ref a6, .ref a7, .int (nI ps), .int (nI bk), .ref a8, .ref a9, .ref a10, .ref a11, .ref a12, .ref a13, .ref a14, .ref a15, .int (nI kf), .int lb, .int (nI lc), .long (0 : Int64), .int (nI el), .int (nI ec), .long eo, .int eb, .long ed, .int (nI mp), .int (nI ml), .long md, .long mo, .int mb, .ref a16, .ref a17])), (a0, .inl (cI, 4097, .inl kd)), (a2, .inl (cI, 4097, .inl sr)), (a3, .inl (cI, 4097, .inl od)), (a4, .inl (cI, 4097, .inl sk)), (a6, .inl (cI, 258, .inl me)), (a7, .inl (cI, 8, .inl si)), (a14, .inl (cJ, 6, .inr (.inl su))), (a15, .inl (cJ, 6, .inr (.inl ke)))] H := hP
                              have hD : va_D A [(o, .inr (0, [.int (nI th), .int (nI cn), .ref a0, .ref a1, .ref a2, .ref a3, .ref a4, .ref a5, .int (nI mn), .ref a6, .ref a7, .int (nI ps), .int (nI bk), .ref a8, .ref a9, .ref a10, .ref a11, .ref a12, .ref a13, .ref a14, .ref a15, .int (nI kf), .int lb, .int (nI lc), .long (0 : Int64), .int (nI el), .int (nI ec), .long eo, .int eb, .long ed, .int (nI mp), .int (nI ml), .long md, .long mo, .int mb, .ref a16, .ref a17])), (a0, .inl (cI, 4097, .inl kd)), (a2, .inl (cI, 4097, .inl sr)), (a3, .inl (cI, 4097, .inl od)), (a4, .inl (cI, 4097, .inl sk)), (a6, .inl (cI, 258, .inl me)), (a7, .inl (cI, 8, .inl si)), (a14, .inl (cJ, 6, .inr (.inl su))), (a15, .inl (cJ, 6, .inr (.inl ke)))] := hD
                              have hw337 : r337 = pm_bad ex pl_2 := hw337
                              subst hw337
                              exact K340 _ H locs (by rw [if_pos c326]) hP hD hS
                            · skip
                              have c326 : ¬ (fa_2 ≤ (0 : Int64)) := fun h => c326 ((lg_cmp_le _ _).mpr h)
                              refine lv_iconst (v := nI 0) hx hb dd_M_weigh_329 (by decide) ?_
                              refine lv_goto (tgt := 340) hx hb dd_M_weigh_330 (by decide) ?_
                              exact K340 _ H locs (by rw [if_neg c326]) hP hD hS
                      · skip
                        refine lv_if_le (tgt := 299) hx hb dd_M_weigh_283 (by decide) (fun c283 => ?_) (fun c283 => ?_)
                        · skip
                          refine lv_lconst (v := 0) hx hb dd_M_weigh_299 (by decide) ?_
                          exact K300_2 _ H locs (by rw [if_pos c283]) hP hD hS
                        · skip
                          refine lv_aload_n hx hb dd_M_weigh_286 rfl (lv_at hl 7 rfl) ?_
                          refine va_get (D := D) (ci := 0) (v := .ref a7) (C := rr_M) (T := tt_M) (N := 37) hx hb hts hin0 hown hK hP 0 kg_9_0 rfl 10 (by decide) lk3 (fun _ h9 => h9) rfl dd_M_weigh_287 ?_
                          refine lv_iload hx hb dd_M_weigh_290 (lv_at hl 1 rfl) ?_
                          refine lv_iconst (v := nI 1) hx hb dd_M_weigh_292 (by decide) ?_
                          refine kx_iadd hx hb dd_M_weigh_293 ?_
                          refine kx_iald (q0 := 6) (t0 := 0) hx hb dd_M_weigh_294 hK hP kg_9_6 rfl (by omega) (by omega) ?_
                          refine lv_i2l hx hb dd_M_weigh_295 rfl ?_
                          refine lv_goto (tgt := 300) hx hb dd_M_weigh_296 (by decide) ?_
                          exact K300_2 _ H locs (by rw [if_neg c283]) hP hD hS
                    · skip
                      refine lv_if_ne (tgt := 268) hx hb dd_M_weigh_252 (by decide) (fun c252 => ?_) (fun c252 => ?_)
                      · skip
                        refine lv_lconst (v := 0) hx hb dd_M_weigh_268 (by decide) ?_
                        exact K269_2 _ H locs (by rw [if_neg c252]) hP hD hS
                      · skip
                        refine lv_aload_n hx hb dd_M_weigh_255 rfl (lv_at hl 7 rfl) ?_
                        refine va_get (D := D) (ci := 0) (v := .ref a7) (C := rr_M) (T := tt_M) (N := 37) hx hb hts hin0 hown hK hP 0 kg_9_0 rfl 10 (by decide) lk3 (fun _ h9 => h9) rfl dd_M_weigh_256 ?_
                        refine lv_iload hx hb dd_M_weigh_259 (lv_at hl 0 rfl) ?_
                        refine lv_iconst (v := nI 1) hx hb dd_M_weigh_261 (by decide) ?_
                        refine kx_iadd hx hb dd_M_weigh_262 ?_
                        refine kx_iald (q0 := 6) (t0 := 0) hx hb dd_M_weigh_263 hK hP kg_9_6 rfl (by omega) (by omega) ?_
                        refine lv_i2l hx hb dd_M_weigh_264 rfl ?_
                        refine lv_goto (tgt := 269) hx hb dd_M_weigh_265 (by decide) ?_
                        exact K269_2 _ H locs (by rw [if_pos c252]) hP hD hS
                  · skip
                    refine lv_if_le (tgt := 299) hx hb dd_M_weigh_283 (by decide) (fun c283 => ?_) (fun c283 => ?_)
                    · skip
                      refine lv_lconst (v := 0) hx hb dd_M_weigh_299 (by decide) ?_
                      exact K300 _ H locs (by rw [if_pos c283]) hP hD hS
                    · skip
                      refine lv_aload_n hx hb dd_M_weigh_286 rfl (lv_at hl 7 rfl) ?_
                      refine va_get (D := D) (ci := 0) (v := .ref a7) (C := rr_M) (T := tt_M) (N := 37) hx hb hts hin0 hown hK hP 0 kg_9_0 rfl 10 (by decide) lk3 (fun _ h9 => h9) rfl dd_M_weigh_287 ?_
                      refine lv_iload hx hb dd_M_weigh_290 (lv_at hl 1 rfl) ?_
                      refine lv_iconst (v := nI 1) hx hb dd_M_weigh_292 (by decide) ?_
                      refine kx_iadd hx hb dd_M_weigh_293 ?_
                      refine kx_iald (q0 := 6) (t0 := 0) hx hb dd_M_weigh_294 hK hP kg_9_6 rfl (by omega) (by omega) ?_
                      refine lv_i2l hx hb dd_M_weigh_295 rfl ?_
                      refine lv_goto (tgt := 300) hx hb dd_M_weigh_296 (by decide) ?_
                      exact K300 _ H locs (by rw [if_neg c283]) hP hD hS
                · skip
                  refine lv_if_ne (tgt := 268) hx hb dd_M_weigh_252 (by decide) (fun c252 => ?_) (fun c252 => ?_)
                  · skip
                    refine lv_lconst (v := 0) hx hb dd_M_weigh_268 (by decide) ?_
                    exact K269 _ H locs (by rw [if_neg c252]) hP hD hS
                  · skip
                    refine lv_aload_n hx hb dd_M_weigh_255 rfl (lv_at hl 7 rfl) ?_
                    refine va_get (D := D) (ci := 0) (v := .ref a7) (C := rr_M) (T := tt_M) (N := 37) hx hb hts hin0 hown hK hP 0 kg_9_0 rfl 10 (by decide) lk3 (fun _ h9 => h9) rfl dd_M_weigh_256 ?_
                    refine lv_iload hx hb dd_M_weigh_259 (lv_at hl 0 rfl) ?_
                    refine lv_iconst (v := nI 1) hx hb dd_M_weigh_261 (by decide) ?_
                    refine kx_iadd hx hb dd_M_weigh_262 ?_
                    refine kx_iald (q0 := 6) (t0 := 0) hx hb dd_M_weigh_263 hK hP kg_9_6 rfl (by omega) (by omega) ?_
                    refine lv_i2l hx hb dd_M_weigh_264 rfl ?_
                    refine lv_goto (tgt := 269) hx hb dd_M_weigh_265 (by decide) ?_
                    exact K269 _ H locs (by rw [if_pos c252]) hP hD hS
              · skip
                refine lv_if_eq (tgt := 206) hx hb dd_M_weigh_194 (by decide) (fun c194 => ?_) (fun c194 => ?_)
                · skip
                  have c194 : ¬ (kd fr = nI 4 ∧ od fr &&& nI 2 = nI 2) := kb_0.mp c194
                  refine lv_aload_n hx hb dd_M_weigh_206 rfl (lv_at hl 5 rfl) ?_
                  refine va_get (D := D) (ci := 0) (v := .ref a15) (C := rr_M) (T := tt_M) (N := 37) hx hb hts hin0 hown hK hP 0 kg_9_0 rfl 20 (by decide) lk0 (fun _ h9 => h9) rfl dd_M_weigh_207 ?_
                  refine lv_iconst (v := nI 5) hx hb dd_M_weigh_210 (by decide) ?_
                  refine kx_lald (q0 := 8) (t0 := 1) hx hb dd_M_weigh_211 hK hP kg_9_8 rfl (by omega) (by omega) ?_
                  exact K212 _ H locs (by rw [if_neg c194]) hP hD hS
                · skip
                  have c194 : kd fr = nI 4 ∧ od fr &&& nI 2 = nI 2 := kb_1.mp c194
                  refine lv_aload_n hx hb dd_M_weigh_197 rfl (lv_at hl 5 rfl) ?_
                  refine va_get (D := D) (ci := 0) (v := .ref a14) (C := rr_M) (T := tt_M) (N := 37) hx hb hts hin0 hown hK hP 0 kg_9_0 rfl 19 (by decide) lk2 (fun _ h9 => h9) rfl dd_M_weigh_198 ?_
                  refine lv_iconst (v := nI 5) hx hb dd_M_weigh_201 (by decide) ?_
                  refine kx_lald (q0 := 7) (t0 := 1) hx hb dd_M_weigh_202 hK hP kg_9_7 rfl (by omega) (by omega) ?_
                  refine lv_goto (tgt := 212) hx hb dd_M_weigh_203 (by decide) ?_
                  exact K212 _ H locs (by rw [if_pos c194]) hP hD hS
            · skip
              refine lv_if_eq (tgt := 170) hx hb dd_M_weigh_144 (by decide) (fun c144 => ?_) (fun c144 => ?_)
              · skip
                have c144 : ¬ (kd fr = nI 4 ∧ od fr &&& nI 2 = nI 2) := kb_0.mp c144
                refine lv_aload_n hx hb dd_M_weigh_170 rfl (lv_at hl 4 rfl) ?_
                refine va_get (D := D) (ci := 0) (v := .ref a15) (C := rr_M) (T := tt_M) (N := 37) hx hb hts hin0 hown hK hP 0 kg_9_0 rfl 20 (by decide) lk0 (fun _ h9 => h9) rfl dd_M_weigh_171 ?_
                refine lv_iconst (v := nI 2) hx hb dd_M_weigh_174 (by decide) ?_
                refine kx_lald (q0 := 8) (t0 := 1) hx hb dd_M_weigh_175 hK hP kg_9_8 rfl (by omega) (by omega) ?_
                refine lv_aload_n hx hb dd_M_weigh_176 rfl (lv_at hl 4 rfl) ?_
                refine va_get (D := D) (ci := 0) (v := .ref a15) (C := rr_M) (T := tt_M) (N := 37) hx hb hts hin0 hown hK hP 0 kg_9_0 rfl 20 (by decide) lk0 (fun _ h9 => h9) rfl dd_M_weigh_177 ?_
                refine lv_iconst (v := nI 3) hx hb dd_M_weigh_180 (by decide) ?_
                refine kx_lald (q0 := 8) (t0 := 1) hx hb dd_M_weigh_181 hK hP kg_9_8 rfl (by omega) (by omega) ?_
                refine lv_ladd hx hb dd_M_weigh_182 ?_
                refine lv_aload_n hx hb dd_M_weigh_183 rfl (lv_at hl 4 rfl) ?_
                refine va_get (D := D) (ci := 0) (v := .ref a15) (C := rr_M) (T := tt_M) (N := 37) hx hb hts hin0 hown hK hP 0 kg_9_0 rfl 20 (by decide) lk0 (fun _ h9 => h9) rfl dd_M_weigh_184 ?_
                refine lv_iconst (v := nI 4) hx hb dd_M_weigh_187 (by decide) ?_
                refine kx_lald (q0 := 8) (t0 := 1) hx hb dd_M_weigh_188 hK hP kg_9_8 rfl (by omega) (by omega) ?_
                refine lv_ladd hx hb dd_M_weigh_189 ?_
                exact K190 _ H locs (by rw [if_neg c144]) hP hD hS
              · skip
                have c144 : kd fr = nI 4 ∧ od fr &&& nI 2 = nI 2 := kb_1.mp c144
                refine lv_aload_n hx hb dd_M_weigh_147 rfl (lv_at hl 4 rfl) ?_
                refine va_get (D := D) (ci := 0) (v := .ref a14) (C := rr_M) (T := tt_M) (N := 37) hx hb hts hin0 hown hK hP 0 kg_9_0 rfl 19 (by decide) lk2 (fun _ h9 => h9) rfl dd_M_weigh_148 ?_
                refine lv_iconst (v := nI 2) hx hb dd_M_weigh_151 (by decide) ?_
                refine kx_lald (q0 := 7) (t0 := 1) hx hb dd_M_weigh_152 hK hP kg_9_7 rfl (by omega) (by omega) ?_
                refine lv_aload_n hx hb dd_M_weigh_153 rfl (lv_at hl 4 rfl) ?_
                refine va_get (D := D) (ci := 0) (v := .ref a14) (C := rr_M) (T := tt_M) (N := 37) hx hb hts hin0 hown hK hP 0 kg_9_0 rfl 19 (by decide) lk2 (fun _ h9 => h9) rfl dd_M_weigh_154 ?_
                refine lv_iconst (v := nI 3) hx hb dd_M_weigh_157 (by decide) ?_
                refine kx_lald (q0 := 7) (t0 := 1) hx hb dd_M_weigh_158 hK hP kg_9_7 rfl (by omega) (by omega) ?_
                refine lv_ladd hx hb dd_M_weigh_159 ?_
                refine lv_aload_n hx hb dd_M_weigh_160 rfl (lv_at hl 4 rfl) ?_
                refine va_get (D := D) (ci := 0) (v := .ref a14) (C := rr_M) (T := tt_M) (N := 37) hx hb hts hin0 hown hK hP 0 kg_9_0 rfl 19 (by decide) lk2 (fun _ h9 => h9) rfl dd_M_weigh_161 ?_
                refine lv_iconst (v := nI 4) hx hb dd_M_weigh_164 (by decide) ?_
                refine kx_lald (q0 := 7) (t0 := 1) hx hb dd_M_weigh_165 hK hP kg_9_7 rfl (by omega) (by omega) ?_
                refine lv_ladd hx hb dd_M_weigh_166 ?_
                refine lv_goto (tgt := 190) hx hb dd_M_weigh_167 (by decide) ?_
                exact K190 _ H locs (by rw [if_pos c144]) hP hD hS
          · skip
            refine lv_if_eq (tgt := 134) hx hb dd_M_weigh_122 (by decide) (fun c122 => ?_) (fun c122 => ?_)
            · skip
              have c122 : ¬ (kd fr = nI 4 ∧ od fr &&& nI 2 = nI 2) := kb_0.mp c122
              refine lv_aload_n hx hb dd_M_weigh_134 rfl (lv_at hl 3 rfl) ?_
              refine va_get (D := D) (ci := 0) (v := .ref a15) (C := rr_M) (T := tt_M) (N := 37) hx hb hts hin0 hown hK hP 0 kg_9_0 rfl 20 (by decide) lk0 (fun _ h9 => h9) rfl dd_M_weigh_135 ?_
              refine lv_iconst (v := nI 1) hx hb dd_M_weigh_138 (by decide) ?_
              refine kx_lald (q0 := 8) (t0 := 1) hx hb dd_M_weigh_139 hK hP kg_9_8 rfl (by omega) (by omega) ?_
              exact K140 _ H locs (by rw [if_neg c122]) hP hD hS
            · skip
              have c122 : kd fr = nI 4 ∧ od fr &&& nI 2 = nI 2 := kb_1.mp c122
              refine lv_aload_n hx hb dd_M_weigh_125 rfl (lv_at hl 3 rfl) ?_
              refine va_get (D := D) (ci := 0) (v := .ref a14) (C := rr_M) (T := tt_M) (N := 37) hx hb hts hin0 hown hK hP 0 kg_9_0 rfl 19 (by decide) lk2 (fun _ h9 => h9) rfl dd_M_weigh_126 ?_
              refine lv_iconst (v := nI 1) hx hb dd_M_weigh_129 (by decide) ?_
              refine kx_lald (q0 := 7) (t0 := 1) hx hb dd_M_weigh_130 hK hP kg_9_7 rfl (by omega) (by omega) ?_
              refine lv_goto (tgt := 140) hx hb dd_M_weigh_131 (by decide) ?_
              exact K140 _ H locs (by rw [if_pos c122]) hP hD hS
        · skip
          refine lv_icmp_ge (tgt := 109) hx hb dd_M_weigh_102 (by decide) (fun c102 => ?_) (fun c102 => ?_)
          · skip
            have c102 : mn ≤ n := (nI_leI (by omega) (by omega)).mp c102
            refine lv_aload_n hx hb dd_M_weigh_109 rfl (lv_at hl 2 rfl) ?_
            refine va_get (D := D) (ci := 0) (v := .int (nI mn)) (C := rr_M) (T := tt_M) (N := 37) hx hb hts hin0 hown hK hP 0 kg_9_0 rfl 8 (by decide) lk7 (fun _ h9 => h9) rfl dd_M_weigh_110 ?_
            exact K113 _ H locs (by rw [if_pos c102]) hP hD hS
          · skip
            have c102 : ¬ (mn ≤ n) := fun h => c102 ((nI_leI (by omega) (by omega)).mpr h)
            refine lv_iload_n hx hb dd_M_weigh_105 rfl (lv_at hl 5 rfl) ?_
            refine lv_goto (tgt := 113) hx hb dd_M_weigh_106 (by decide) ?_
            exact K113 _ H locs (by rw [if_neg c102]) hP hD hS
      · skip
        refine lv_if_eq (tgt := 89) hx hb dd_M_weigh_76 (by decide) (fun c76 => ?_) (fun c76 => ?_)
        · skip
          have c76 : ¬ (fr < cn ∧ kd fr = nI 4) := kb_0.mp c76
          refine lv_lconst (v := 0) hx hb dd_M_weigh_89 (by decide) ?_
          exact K90 _ H locs (by rw [if_neg c76]) hP hD hS
        · skip
          have c76 : fr < cn ∧ kd fr = nI 4 := kb_1.mp c76
          refine lv_aload_n hx hb dd_M_weigh_79 rfl (lv_at hl 2 rfl) ?_
          refine va_get (D := D) (ci := 0) (v := .ref a4) (C := rr_M) (T := tt_M) (N := 37) hx hb hts hin0 hown hK hP 0 kg_9_0 rfl 6 (by decide) lk5 (fun _ h9 => h9) rfl dd_M_weigh_80 ?_
          refine lv_iload_n hx hb dd_M_weigh_83 rfl (lv_at hl 3 rfl) ?_
          refine kx_iald (q0 := 4) (t0 := 0) hx hb dd_M_weigh_84 hK hP kg_9_4 rfl (by omega) (by omega) ?_
          refine lv_i2l hx hb dd_M_weigh_85 rfl ?_
          refine lv_goto (tgt := 90) hx hb dd_M_weigh_86 (by decide) ?_
          exact K90 _ H locs (by rw [if_pos c76]) hP hD hS
    · skip
      refine lv_if_eq (tgt := 65) hx hb dd_M_weigh_52 (by decide) (fun c52 => ?_) (fun c52 => ?_)
      · skip
        have c52 : ¬ (b < cn ∧ kd b = nI 4) := kb_0.mp c52
        refine lv_lconst (v := 0) hx hb dd_M_weigh_65 (by decide) ?_
        exact K66 _ H locs (by rw [if_neg c52]) hP hD hS
      · skip
        have c52 : b < cn ∧ kd b = nI 4 := kb_1.mp c52
        refine lv_aload_n hx hb dd_M_weigh_55 rfl (lv_at hl 2 rfl) ?_
        refine va_get (D := D) (ci := 0) (v := .ref a2) (C := rr_M) (T := tt_M) (N := 37) hx hb hts hin0 hown hK hP 0 kg_9_0 rfl 4 (by decide) lk4 (fun _ h9 => h9) rfl dd_M_weigh_56 ?_
        refine lv_iload_n hx hb dd_M_weigh_59 rfl (lv_at hl 4 rfl) ?_
        refine kx_iald (q0 := 2) (t0 := 0) hx hb dd_M_weigh_60 hK hP kg_9_2 rfl (by omega) (by omega) ?_
        refine lv_i2l hx hb dd_M_weigh_61 rfl ?_
        refine lv_goto (tgt := 66) hx hb dd_M_weigh_62 (by decide) ?_
        exact K66 _ H locs (by rw [if_pos c52]) hP hD hS
  · skip
    refine lv_if_eq (tgt := 21) hx hb dd_M_weigh_9 (by decide) (fun c9 => ?_) (fun c9 => ?_)
    · skip
      have c9 : ¬ (kd fr = nI 4 ∧ od fr &&& nI 2 = nI 2) := kb_0.mp c9
      refine lv_aload_n hx hb dd_M_weigh_21 rfl (lv_at hl 1 rfl) ?_
      refine va_get (D := D) (ci := 0) (v := .ref a15) (C := rr_M) (T := tt_M) (N := 37) hx hb hts hin0 hown hK hP 0 kg_9_0 rfl 20 (by decide) lk0 (fun _ h9 => h9) rfl dd_M_weigh_22 ?_
      refine lv_iconst (v := nI 0) hx hb dd_M_weigh_25 (by decide) ?_
      refine kx_lald (q0 := 8) (t0 := 1) hx hb dd_M_weigh_26 hK hP kg_9_8 rfl (by omega) (by omega) ?_
      exact K27 _ H locs (by rw [if_neg c9]) hP hD hS
    · skip
      have c9 : kd fr = nI 4 ∧ od fr &&& nI 2 = nI 2 := kb_1.mp c9
      refine lv_aload_n hx hb dd_M_weigh_12 rfl (lv_at hl 1 rfl) ?_
      refine va_get (D := D) (ci := 0) (v := .ref a14) (C := rr_M) (T := tt_M) (N := 37) hx hb hts hin0 hown hK hP 0 kg_9_0 rfl 19 (by decide) lk2 (fun _ h9 => h9) rfl dd_M_weigh_13 ?_
      refine lv_iconst (v := nI 0) hx hb dd_M_weigh_16 (by decide) ?_
      refine kx_lald (q0 := 7) (t0 := 1) hx hb dd_M_weigh_17 hK hP kg_9_7 rfl (by omega) (by omega) ?_
      refine lv_goto (tgt := 27) hx hb dd_M_weigh_18 (by decide) ?_
      exact K27 _ H locs (by rw [if_pos c9]) hP hD hS


set_option maxHeartbeats 4000000 in
set_option maxRecDepth 100000 in
theorem ct_M_weigh_n (l : Launch) (D : va_G) (cI cJ cZ : ClassId) (sz : Nat) (o : Nat) (th : Nat) (cn : Nat) (a0 : Nat) (a1 : Nat) (a2 : Nat) (a3 : Nat) (a4 : Nat) (a5 : Nat) (mn : Nat) (a6 : Nat) (a7 : Nat) (ps : Nat) (bk : Nat) (a8 : Nat) (a9 : Nat) (a10 : Nat) (a11 : Nat) (a12 : Nat) (a13 : Nat) (a14 : Nat) (a15 : Nat) (kf : Nat) (lb : Int32) (lc : Nat) (lo : Int64) (el : Nat) (ec : Nat) (eo : Int64) (eb : Int32) (ed : Int64) (mp : Nat) (ml : Nat) (md : Int64) (mo : Int64) (mb : Int32) (a16 : Nat) (a17 : Nat) (kd : Nat → Int32) (sr : Nat → Int32) (od : Nat → Int32) (sk : Nat → Int32) (me : Nat → Int32) (si : Nat → Int32) (su : Nat → Int64) (ke : Nat → Int64) (b : Nat) (n : Nat) (hb : b ≤ cn) (hc : cn ≤ 4096) (hn : n < 2 ^ 31) (hm : mn ≤ 256) : kx_Mv l yy_M_weigh ww_M_weigh ({ frames := 1, cells := 0, slots := 0, locals := 25 }) D vwCl (kx_ty cI cJ cZ) [.ref o, .int (-1), .int (nI b), .int (nI n)] [(o, .inr (0, [.int (nI th), .int (nI cn), .ref a0, .ref a1, .ref a2, .ref a3, .ref a4, .ref a5, .int (nI mn), .ref a6, .ref a7, .int (nI ps), .int (nI bk), .ref a8, .ref a9, .ref a10, .ref a11, .ref a12, .ref a13, .ref a14, .ref a15, .int (nI kf), .int lb, .int (nI lc), .long lo, .int (nI el), .int (nI ec), .long eo, .int eb, .long ed, .int (nI mp), .int (nI ml), .long md, .long mo, .int mb, .ref a16, .ref a17])), (a0, .inl (cI, 4097, .inl kd)), (a2, .inl (cI, 4097, .inl sr)), (a3, .inl (cI, 4097, .inl od)), (a4, .inl (cI, 4097, .inl sk)), (a6, .inl (cI, 258, .inl me)), (a7, .inl (cI, 8, .inl si)), (a14, .inl (cJ, 6, .inr (.inl su))), (a15, .inl (cJ, 6, .inr (.inl ke)))] sz (fun (u : Int32 × Nat × Int64) => u.1 = pm_lb (pm_ex su si (if pm_hy kd cn b then (sr b).toInt64 else 0) 0 (me (pm_mi n mn))) (pm_pl su si) (pm_fa su si) (pm_le su si) ∧ u.2.1 = pm_lc (pm_ex su si (if pm_hy kd cn b then (sr b).toInt64 else 0) 0 (me (pm_mi n mn))) (pm_pl su si) (pm_fa su si) (pm_le su si) ∧ u.2.2 = pm_lo (pm_ex su si (if pm_hy kd cn b then (sr b).toInt64 else 0) 0 (me (pm_mi n mn))) (pm_le su si)) (fun (u : Int32 × Nat × Int64) => [(o, .inr (0, [.int (nI th), .int (nI cn), .ref a0, .ref a1, .ref a2, .ref a3, .ref a4, .ref a5, .int (nI mn), .ref a6, .ref a7, .int (nI ps), .int (nI bk), .ref a8, .ref a9, .ref a10, .ref a11, .ref a12, .ref a13, .ref a14, .ref a15, .int (nI kf), .int u.1, .int (nI u.2.1), .long u.2.2, .int (nI el), .int (nI ec), .long eo, .int eb, .long ed, .int (nI mp), .int (nI ml), .long md, .long mo, .int mb, .ref a16, .ref a17])), (a0, .inl (cI, 4097, .inl kd)), (a2, .inl (cI, 4097, .inl sr)), (a3, .inl (cI, 4097, .inl od)), (a4, .inl (cI, 4097, .inl sk)), (a6, .inl (cI, 258, .inl me)), (a7, .inl (cI, 8, .inl si)), (a14, .inl (cJ, 6, .inr (.inl su))), (a15, .inl (cJ, 6, .inr (.inl ke)))]) 0 0 := by
  refine kx_startv (by decide) rfl (Nat.le_of_ble_eq_true rfl) ?_
  intro p e s m below meth c A ls hx hb hr hml hts hown hlocks hin hP hK hN hD hA hS hl
  have hl : lv_has ls 16 [(0, .ref o), (1, .int (-1)), (2, .int (nI b)), (3, .int (nI n))] := hl
  have hown : s.vm.findClass rr_M = some m.cls := hown
  have lk0 := hts _ (kx_m kw_817)
  have hin0 : ∀ w ∈ u_ws rr_M tt_M 37, w ∈ ww_M_weigh := fun w h => kx_m (kf_M w h)
  have lk2 := hts _ (kx_m kw_808)
  have lk3 := hts _ (kx_m kw_802)
  have lk4 := hts _ (kx_m kw_807)
  have lk5 := hts _ (kx_m kw_806)
  have lk6 := hts _ (kx_m kw_822)
  have lk7 := hts _ (kx_m kw_820)
  have lk8 := hts _ (kx_m kw_821)
  obtain ⟨H, hH⟩ : ∃ H, H = s.heap := ⟨_, rfl⟩
  obtain ⟨locs, hlocs⟩ : ∃ z : List Loc, z = [] := ⟨_, rfl⟩
  have hP : va_P D vwCl [(o, .inr (0, [.int (nI th), .int (nI cn), .ref a0, .ref a1, .ref a2, .ref a3, .ref a4, .ref a5, .int (nI mn), .ref a6, .ref a7, .int (nI ps), .int (nI bk), .ref a8, .ref a9, .ref a10, .ref a11, .ref a12, .ref a13, .ref a14, .ref a15, .int (nI kf), .int lb, .int (nI lc), .long lo, .int (nI el), .int (nI ec), .long eo, .int eb, .long ed, .int (nI mp), .int (nI ml), .long md, .long mo, .int mb, .ref a16, .ref a17])), (a0, .inl (cI, 4097, .inl kd)), (a2, .inl (cI, 4097, .inl sr)), (a3, .inl (cI, 4097, .inl od)), (a4, .inl (cI, 4097, .inl sk)), (a6, .inl (cI, 258, .inl me)), (a7, .inl (cI, 8, .inl si)), (a14, .inl (cJ, 6, .inr (.inl su))), (a15, .inl (cJ, 6, .inr (.inl ke)))] H := by rw [hH]; exact hP
  have hS : va_S A s.heap H locs := by rw [hH, hlocs]; exact hS
  refine kx_gen hH hlocs ?_
  clear hH hlocs
  refine kx_nameQ (fun Q hQ => ?_)
  refine lv_aload_n hx hb dd_M_weigh_0 rfl (lv_at hl 0 rfl) ?_
  refine lv_iload_n hx hb dd_M_weigh_1 rfl (lv_at hl 1 rfl) ?_
  refine kx_calli (wr := [(a2, .inl (cI, 4097, .inl sr)), (a4, .inl (cI, 4097, .inl sk)), (a6, .inl (cI, 258, .inl me)), (a7, .inl (cI, 8, .inl si)), (a14, .inl (cJ, 6, .inr (.inl su))), (a15, .inl (cJ, 6, .inr (.inl ke)))]) (va_runV (C := rr_M) (As := [.int (-1)]) (rest := []) ⟨hx, hb, hml, hown, hts⟩ (ct_M_isWhole_n l D cI cJ cZ H.size o th cn a0 a1 a2 a3 a4 a5 mn a6 a7 ps bk a8 a9 a10 a11 a12 a13 a14 a15 kf lb lc lo el ec eo eb ed mp ml md mo mb a16 a17 kd od) ⟨(callB_of 1 hts (kx_good kw_1002) rfl rfl rfl (hts _ (kx_m kw_53)) (hts _ (kx_m kw_999)) (by decide +kernel) ⟨Nat.le_of_ble_eq_true rfl, Nat.le_of_ble_eq_true rfl⟩), (hts _ (kx_m kw_1001)), (hts _ (kx_m kw_32))⟩ (kx_preV (ci := 0) (q0 := 0) hK hN (hP.sub [0, 1, 3] kt_9_0_1_3) (hD.sub [0, 1, 3] (by decide) ks_9_0_1_3) rfl kg_3_0) rfl rfl hl.1 rfl (lv_room (Nat.le_of_ble_eq_true rfl)) dd_M_weigh_2 ⟨Nat.le_of_ble_eq_true rfl, Nat.le_of_ble_eq_true rfl⟩) hP hD hS hA [0, 1, 3] [2, 4, 5, 6, 7, 8] ks_9_0_1_3 ks_9_2_4_5_6_7_8 (by decide) (by decide) (fun r2 u2 H locs hw2 hP hD hS => ?_)
  have hP : va_P D vwCl [(a2, .inl (cI, 4097, .inl sr)), (a4, .inl (cI, 4097, .inl sk)), (a6, .inl (cI, 258, .inl me)), (a7, .inl (cI, 8, .inl si)), (a14, .inl (cJ, 6, .inr (.inl su))), (a15, .inl (cJ, 6, .inr (.inl ke))), (o, .inr (0, [.int (nI th), .int (nI cn), .ref a0, .ref a1, .ref a2, .ref a3, .ref a4, .ref a5, .int (nI mn), .ref a6, .ref a7, .int (nI ps), .int (nI bk), .ref a8, .ref a9, .ref a10, .ref a11, .ref a12, .ref a13, .ref a14, .ref a15, .int (nI kf), .int lb, .int (nI lc), .long lo, .int (nI el), .int (nI ec), .long eo, .int eb, .long ed, .int (nI mp), .int (nI ml), .long md, .long mo, .int mb, .ref a16, .ref a17])), (a0, .inl (cI, 4097, .inl kd)), (a3, .inl (cI, 4097, .inl od))] H := hP
  have hD : va_D A [(a2, .inl (cI, 4097, .inl sr)), (a4, .inl (cI, 4097, .inl sk)), (a6, .inl (cI, 258, .inl me)), (a7, .inl (cI, 8, .inl si)), (a14, .inl (cJ, 6, .inr (.inl su))), (a15, .inl (cJ, 6, .inr (.inl ke))), (o, .inr (0, [.int (nI th), .int (nI cn), .ref a0, .ref a1, .ref a2, .ref a3, .ref a4, .ref a5, .int (nI mn), .ref a6, .ref a7, .int (nI ps), .int (nI bk), .ref a8, .ref a9, .ref a10, .ref a11, .ref a12, .ref a13, .ref a14, .ref a15, .int (nI kf), .int lb, .int (nI lc), .long lo, .int (nI el), .int (nI ec), .long eo, .int eb, .long ed, .int (nI mp), .int (nI ml), .long md, .long mo, .int mb, .ref a16, .ref a17])), (a0, .inl (cI, 4097, .inl kd)), (a3, .inl (cI, 4097, .inl od))] := hD
  have hP : va_P D vwCl [(o, .inr (0, [.int (nI th), .int (nI cn), .ref a0, .ref a1, .ref a2, .ref a3, .ref a4, .ref a5, .int (nI mn), .ref a6, .ref a7, .int (nI ps), .int (nI bk), .ref a8, .ref a9, .ref a10, .ref a11, .ref a12, .ref a13, .ref a14, .ref a15, .int (nI kf), .int lb, .int (nI lc), .long lo, .int (nI el), .int (nI ec), .long eo, .int eb, .long ed, .int (nI mp), .int (nI ml), .long md, .long mo, .int mb, .ref a16, .ref a17])), (a0, .inl (cI, 4097, .inl kd)), (a2, .inl (cI, 4097, .inl sr)), (a3, .inl (cI, 4097, .inl od)), (a4, .inl (cI, 4097, .inl sk)), (a6, .inl (cI, 258, .inl me)), (a7, .inl (cI, 8, .inl si)), (a14, .inl (cJ, 6, .inr (.inl su))), (a15, .inl (cJ, 6, .inr (.inl ke)))] H := hP.sub [6, 7, 0, 8, 1, 2, 3, 4, 5] kt_9_6_7_0_8_1_2_3_4_5
  have hD : va_D A [(o, .inr (0, [.int (nI th), .int (nI cn), .ref a0, .ref a1, .ref a2, .ref a3, .ref a4, .ref a5, .int (nI mn), .ref a6, .ref a7, .int (nI ps), .int (nI bk), .ref a8, .ref a9, .ref a10, .ref a11, .ref a12, .ref a13, .ref a14, .ref a15, .int (nI kf), .int lb, .int (nI lc), .long lo, .int (nI el), .int (nI ec), .long eo, .int eb, .long ed, .int (nI mp), .int (nI ml), .long md, .long mo, .int mb, .ref a16, .ref a17])), (a0, .inl (cI, 4097, .inl kd)), (a2, .inl (cI, 4097, .inl sr)), (a3, .inl (cI, 4097, .inl od)), (a4, .inl (cI, 4097, .inl sk)), (a6, .inl (cI, 258, .inl me)), (a7, .inl (cI, 8, .inl si)), (a14, .inl (cJ, 6, .inr (.inl su))), (a15, .inl (cJ, 6, .inr (.inl ke)))] := hD.sub [6, 7, 0, 8, 1, 2, 3, 4, 5] (by decide) ks_9_6_7_0_8_1_2_3_4_5
  have hw2 : r2 = kb_p True := hw2
  subst hw2
  refine lv_istore (lv' := [(4, .int (kb_p True)), (0, .ref o), (1, .int (-1)), (2, .int (nI b)), (3, .int (nI n))]) hx hb dd_M_weigh_5 hl (by decide) rfl (fun ls hl => ?_)
  refine lv_iload hx hb dd_M_weigh_7 (lv_at hl 0 rfl) ?_
  refine kx_joinl (D := D) (cl := vwCl) (A := A) (ws := [(o, .inr (0, [.int (nI th), .int (nI cn), .ref a0, .ref a1, .ref a2, .ref a3, .ref a4, .ref a5, .int (nI mn), .ref a6, .ref a7, .int (nI ps), .int (nI bk), .ref a8, .ref a9, .ref a10, .ref a11, .ref a12, .ref a13, .ref a14, .ref a15, .int (nI kf), .int lb, .int (nI lc), .long lo, .int (nI el), .int (nI ec), .long eo, .int eb, .long ed, .int (nI mp), .int (nI ml), .long md, .long mo, .int mb, .ref a16, .ref a17])), (a0, .inl (cI, 4097, .inl kd)), (a2, .inl (cI, 4097, .inl sr)), (a3, .inl (cI, 4097, .inl od)), (a4, .inl (cI, 4097, .inl sk)), (a6, .inl (cI, 258, .inl me)), (a7, .inl (cI, 8, .inl si)), (a14, .inl (cJ, 6, .inr (.inl su))), (a15, .inl (cJ, 6, .inr (.inl ke)))]) (Y := 27) (ls1 := ls) (st1 := []) (su 0) (fun v27 H locs e_v27 hP hD hS => ?_) (fun K27 => ?_)
  · skip
    refine lv_aload_n hx hb dd_M_weigh_27 rfl (lv_at hl 1 rfl) ?_
    refine va_get (D := D) (ci := 0) (v := .ref a7) (C := rr_M) (T := tt_M) (N := 37) hx hb hts hin0 hown hK hP 0 kg_9_0 rfl 10 (by decide) lk2 (fun _ h9 => h9) rfl dd_M_weigh_28 ?_
    refine lv_iconst (v := nI 0) hx hb dd_M_weigh_31 (by decide) ?_
    refine kx_iald (q0 := 6) (t0 := 0) hx hb dd_M_weigh_32 hK hP kg_9_6 rfl (by omega) (by omega) ?_
    refine lv_i2l hx hb dd_M_weigh_33 rfl ?_
    refine lv_ladd hx hb dd_M_weigh_34 ?_
    refine lv_aload_n hx hb dd_M_weigh_35 rfl (lv_at hl 1 rfl) ?_
    refine va_get (D := D) (ci := 0) (v := .ref a7) (C := rr_M) (T := tt_M) (N := 37) hx hb hts hin0 hown hK hP 0 kg_9_0 rfl 10 (by decide) lk2 (fun _ h9 => h9) rfl dd_M_weigh_36 ?_
    refine lv_iconst (v := nI 4) hx hb dd_M_weigh_39 (by decide) ?_
    refine kx_iald (q0 := 6) (t0 := 0) hx hb dd_M_weigh_40 hK hP kg_9_6 rfl (by omega) (by omega) ?_
    refine lv_i2l hx hb dd_M_weigh_41 rfl ?_
    refine lv_ladd hx hb dd_M_weigh_42 ?_
    refine lv_topl (fun w1 e_w1 => ?_)
    refine lv_lstore (lv' := [(5, .long w1), (4, .int (kb_p True)), (0, .ref o), (1, .int (-1)), (2, .int (nI b)), (3, .int (nI n))]) hx hb dd_M_weigh_43 hl (by decide) rfl (fun ls hl => ?_)
    refine lv_lload hx hb dd_M_weigh_45 (lv_at hl 0 rfl) ?_
    refine lv_aload_n hx hb dd_M_weigh_47 rfl (lv_at hl 2 rfl) ?_
    refine lv_iload_n hx hb dd_M_weigh_48 rfl (lv_at hl 4 rfl) ?_
    refine kx_calli (wr := [(a2, .inl (cI, 4097, .inl sr)), (a3, .inl (cI, 4097, .inl od)), (a4, .inl (cI, 4097, .inl sk)), (a6, .inl (cI, 258, .inl me)), (a7, .inl (cI, 8, .inl si)), (a14, .inl (cJ, 6, .inr (.inl su))), (a15, .inl (cJ, 6, .inr (.inl ke)))]) (va_runV (C := rr_M) (As := [.int (nI b)]) (rest := [.long w1]) ⟨hx, hb, hml, hown, hts⟩ (ct_M_isHyphenated l D cI cJ cZ H.size o th cn a0 a1 a2 a3 a4 a5 mn a6 a7 ps bk a8 a9 a10 a11 a12 a13 a14 a15 kf lb lc lo el ec eo eb ed mp ml md mo mb a16 a17 kd b (by omega) (by omega)) ⟨(callB_of 1 hts (kx_good kw_1006) rfl rfl rfl (hts _ (kx_m kw_53)) (hts _ (kx_m kw_1003)) (by decide +kernel) ⟨Nat.le_of_ble_eq_true rfl, Nat.le_of_ble_eq_true rfl⟩), (hts _ (kx_m kw_1005)), (hts _ (kx_m kw_33))⟩ (kx_preV (ci := 0) (q0 := 0) hK hN (hP.sub [0, 1] kt_9_0_1) (hD.sub [0, 1] (by decide) ks_9_0_1) rfl kg_2_0) rfl rfl hl.1 rfl (lv_room (Nat.le_of_ble_eq_true rfl)) dd_M_weigh_49 ⟨Nat.le_of_ble_eq_true rfl, Nat.le_of_ble_eq_true rfl⟩) hP hD hS hA [0, 1] [2, 3, 4, 5, 6, 7, 8] ks_9_0_1 ks_9_2_3_4_5_6_7_8 (by decide) (by decide) (fun r49 u49 H locs hw49 hP hD hS => ?_)
    have hP : va_P D vwCl [(a2, .inl (cI, 4097, .inl sr)), (a3, .inl (cI, 4097, .inl od)), (a4, .inl (cI, 4097, .inl sk)), (a6, .inl (cI, 258, .inl me)), (a7, .inl (cI, 8, .inl si)), (a14, .inl (cJ, 6, .inr (.inl su))), (a15, .inl (cJ, 6, .inr (.inl ke))), (o, .inr (0, [.int (nI th), .int (nI cn), .ref a0, .ref a1, .ref a2, .ref a3, .ref a4, .ref a5, .int (nI mn), .ref a6, .ref a7, .int (nI ps), .int (nI bk), .ref a8, .ref a9, .ref a10, .ref a11, .ref a12, .ref a13, .ref a14, .ref a15, .int (nI kf), .int lb, .int (nI lc), .long lo, .int (nI el), .int (nI ec), .long eo, .int eb, .long ed, .int (nI mp), .int (nI ml), .long md, .long mo, .int mb, .ref a16, .ref a17])), (a0, .inl (cI, 4097, .inl kd))] H := hP
    have hD : va_D A [(a2, .inl (cI, 4097, .inl sr)), (a3, .inl (cI, 4097, .inl od)), (a4, .inl (cI, 4097, .inl sk)), (a6, .inl (cI, 258, .inl me)), (a7, .inl (cI, 8, .inl si)), (a14, .inl (cJ, 6, .inr (.inl su))), (a15, .inl (cJ, 6, .inr (.inl ke))), (o, .inr (0, [.int (nI th), .int (nI cn), .ref a0, .ref a1, .ref a2, .ref a3, .ref a4, .ref a5, .int (nI mn), .ref a6, .ref a7, .int (nI ps), .int (nI bk), .ref a8, .ref a9, .ref a10, .ref a11, .ref a12, .ref a13, .ref a14, .ref a15, .int (nI kf), .int lb, .int (nI lc), .long lo, .int (nI el), .int (nI ec), .long eo, .int eb, .long ed, .int (nI mp), .int (nI ml), .long md, .long mo, .int mb, .ref a16, .ref a17])), (a0, .inl (cI, 4097, .inl kd))] := hD
    have hP : va_P D vwCl [(o, .inr (0, [.int (nI th), .int (nI cn), .ref a0, .ref a1, .ref a2, .ref a3, .ref a4, .ref a5, .int (nI mn), .ref a6, .ref a7, .int (nI ps), .int (nI bk), .ref a8, .ref a9, .ref a10, .ref a11, .ref a12, .ref a13, .ref a14, .ref a15, .int (nI kf), .int lb, .int (nI lc), .long lo, .int (nI el), .int (nI ec), .long eo, .int eb, .long ed, .int (nI mp), .int (nI ml), .long md, .long mo, .int mb, .ref a16, .ref a17])), (a0, .inl (cI, 4097, .inl kd)), (a2, .inl (cI, 4097, .inl sr)), (a3, .inl (cI, 4097, .inl od)), (a4, .inl (cI, 4097, .inl sk)), (a6, .inl (cI, 258, .inl me)), (a7, .inl (cI, 8, .inl si)), (a14, .inl (cJ, 6, .inr (.inl su))), (a15, .inl (cJ, 6, .inr (.inl ke)))] H := hP.sub [7, 8, 0, 1, 2, 3, 4, 5, 6] kt_9_7_8_0_1_2_3_4_5_6
    have hD : va_D A [(o, .inr (0, [.int (nI th), .int (nI cn), .ref a0, .ref a1, .ref a2, .ref a3, .ref a4, .ref a5, .int (nI mn), .ref a6, .ref a7, .int (nI ps), .int (nI bk), .ref a8, .ref a9, .ref a10, .ref a11, .ref a12, .ref a13, .ref a14, .ref a15, .int (nI kf), .int lb, .int (nI lc), .long lo, .int (nI el), .int (nI ec), .long eo, .int eb, .long ed, .int (nI mp), .int (nI ml), .long md, .long mo, .int mb, .ref a16, .ref a17])), (a0, .inl (cI, 4097, .inl kd)), (a2, .inl (cI, 4097, .inl sr)), (a3, .inl (cI, 4097, .inl od)), (a4, .inl (cI, 4097, .inl sk)), (a6, .inl (cI, 258, .inl me)), (a7, .inl (cI, 8, .inl si)), (a14, .inl (cJ, 6, .inr (.inl su))), (a15, .inl (cJ, 6, .inr (.inl ke)))] := hD.sub [7, 8, 0, 1, 2, 3, 4, 5, 6] (by decide) ks_9_7_8_0_1_2_3_4_5_6
    have hw49 : r49 = kb_p (b < cn ∧ kd b = nI 4) := hw49
    subst hw49
    refine kx_joinl (D := D) (cl := vwCl) (A := A) (ws := [(o, .inr (0, [.int (nI th), .int (nI cn), .ref a0, .ref a1, .ref a2, .ref a3, .ref a4, .ref a5, .int (nI mn), .ref a6, .ref a7, .int (nI ps), .int (nI bk), .ref a8, .ref a9, .ref a10, .ref a11, .ref a12, .ref a13, .ref a14, .ref a15, .int (nI kf), .int lb, .int (nI lc), .long lo, .int (nI el), .int (nI ec), .long eo, .int eb, .long ed, .int (nI mp), .int (nI ml), .long md, .long mo, .int mb, .ref a16, .ref a17])), (a0, .inl (cI, 4097, .inl kd)), (a2, .inl (cI, 4097, .inl sr)), (a3, .inl (cI, 4097, .inl od)), (a4, .inl (cI, 4097, .inl sk)), (a6, .inl (cI, 258, .inl me)), (a7, .inl (cI, 8, .inl si)), (a14, .inl (cJ, 6, .inr (.inl su))), (a15, .inl (cJ, 6, .inr (.inl ke)))]) (Y := 66) (ls1 := ls) (st1 := [.long w1]) (if b < cn ∧ kd b = nI 4 then ((sr b).toInt64) else (0 : Int64)) (fun v66 H locs e_v66 hP hD hS => ?_) (fun K66 => ?_)
    · skip
      refine lv_ladd hx hb dd_M_weigh_66 ?_
      refine lv_topl (fun w2 e_w2 => ?_)
      refine lv_lstore (lv' := [(5, .long w2), (4, .int (kb_p True)), (0, .ref o), (1, .int (-1)), (2, .int (nI b)), (3, .int (nI n))]) hx hb dd_M_weigh_67 hl (by decide) rfl (fun ls hl => ?_)
      refine lv_lload hx hb dd_M_weigh_69 (lv_at hl 0 rfl) ?_
      refine lv_aload_n hx hb dd_M_weigh_71 rfl (lv_at hl 2 rfl) ?_
      refine lv_iload_n hx hb dd_M_weigh_72 rfl (lv_at hl 3 rfl) ?_
      refine kx_calli (wr := [(a2, .inl (cI, 4097, .inl sr)), (a3, .inl (cI, 4097, .inl od)), (a4, .inl (cI, 4097, .inl sk)), (a6, .inl (cI, 258, .inl me)), (a7, .inl (cI, 8, .inl si)), (a14, .inl (cJ, 6, .inr (.inl su))), (a15, .inl (cJ, 6, .inr (.inl ke)))]) (va_runV (C := rr_M) (As := [.int (-1)]) (rest := [.long w2]) ⟨hx, hb, hml, hown, hts⟩ (ct_M_isHyphenated_n l D cI cJ cZ H.size o th cn a0 a1 a2 a3 a4 a5 mn a6 a7 ps bk a8 a9 a10 a11 a12 a13 a14 a15 kf lb lc lo el ec eo eb ed mp ml md mo mb a16 a17 kd) ⟨(callB_of 1 hts (kx_good kw_1006) rfl rfl rfl (hts _ (kx_m kw_53)) (hts _ (kx_m kw_1003)) (by decide +kernel) ⟨Nat.le_of_ble_eq_true rfl, Nat.le_of_ble_eq_true rfl⟩), (hts _ (kx_m kw_1005)), (hts _ (kx_m kw_33))⟩ (kx_preV (ci := 0) (q0 := 0) hK hN (hP.sub [0, 1] kt_9_0_1) (hD.sub [0, 1] (by decide) ks_9_0_1) rfl kg_2_0) rfl rfl hl.1 rfl (lv_room (Nat.le_of_ble_eq_true rfl)) dd_M_weigh_73 ⟨Nat.le_of_ble_eq_true rfl, Nat.le_of_ble_eq_true rfl⟩) hP hD hS hA [0, 1] [2, 3, 4, 5, 6, 7, 8] ks_9_0_1 ks_9_2_3_4_5_6_7_8 (by decide) (by decide) (fun r73 u73 H locs hw73 hP hD hS => ?_)
      have hP : va_P D vwCl [(a2, .inl (cI, 4097, .inl sr)), (a3, .inl (cI, 4097, .inl od)), (a4, .inl (cI, 4097, .inl sk)), (a6, .inl (cI, 258, .inl me)), (a7, .inl (cI, 8, .inl si)), (a14, .inl (cJ, 6, .inr (.inl su))), (a15, .inl (cJ, 6, .inr (.inl ke))), (o, .inr (0, [.int (nI th), .int (nI cn), .ref a0, .ref a1, .ref a2, .ref a3, .ref a4, .ref a5, .int (nI mn), .ref a6, .ref a7, .int (nI ps), .int (nI bk), .ref a8, .ref a9, .ref a10, .ref a11, .ref a12, .ref a13, .ref a14, .ref a15, .int (nI kf), .int lb, .int (nI lc), .long lo, .int (nI el), .int (nI ec), .long eo, .int eb, .long ed, .int (nI mp), .int (nI ml), .long md, .long mo, .int mb, .ref a16, .ref a17])), (a0, .inl (cI, 4097, .inl kd))] H := hP
      have hD : va_D A [(a2, .inl (cI, 4097, .inl sr)), (a3, .inl (cI, 4097, .inl od)), (a4, .inl (cI, 4097, .inl sk)), (a6, .inl (cI, 258, .inl me)), (a7, .inl (cI, 8, .inl si)), (a14, .inl (cJ, 6, .inr (.inl su))), (a15, .inl (cJ, 6, .inr (.inl ke))), (o, .inr (0, [.int (nI th), .int (nI cn), .ref a0, .ref a1, .ref a2, .ref a3, .ref a4, .ref a5, .int (nI mn), .ref a6, .ref a7, .int (nI ps), .int (nI bk), .ref a8, .ref a9, .ref a10, .ref a11, .ref a12, .ref a13, .ref a14, .ref a15, .int (nI kf), .int lb, .int (nI lc), .long lo, .int (nI el), .int (nI ec), .long eo, .int eb, .long ed, .int (nI mp), .int (nI ml), .long md, .long mo, .int mb, .ref a16, .ref a17])), (a0, .inl (cI, 4097, .inl kd))] := hD
      have hP : va_P D vwCl [(o, .inr (0, [.int (nI th), .int (nI cn), .ref a0, .ref a1, .ref a2, .ref a3, .ref a4, .ref a5, .int (nI mn), .ref a6, .ref a7, .int (nI ps), .int (nI bk), .ref a8, .ref a9, .ref a10, .ref a11, .ref a12, .ref a13, .ref a14, .ref a15, .int (nI kf), .int lb, .int (nI lc), .long lo, .int (nI el), .int (nI ec), .long eo, .int eb, .long ed, .int (nI mp), .int (nI ml), .long md, .long mo, .int mb, .ref a16, .ref a17])), (a0, .inl (cI, 4097, .inl kd)), (a2, .inl (cI, 4097, .inl sr)), (a3, .inl (cI, 4097, .inl od)), (a4, .inl (cI, 4097, .inl sk)), (a6, .inl (cI, 258, .inl me)), (a7, .inl (cI, 8, .inl si)), (a14, .inl (cJ, 6, .inr (.inl su))), (a15, .inl (cJ, 6, .inr (.inl ke)))] H := hP.sub [7, 8, 0, 1, 2, 3, 4, 5, 6] kt_9_7_8_0_1_2_3_4_5_6
      have hD : va_D A [(o, .inr (0, [.int (nI th), .int (nI cn), .ref a0, .ref a1, .ref a2, .ref a3, .ref a4, .ref a5, .int (nI mn), .ref a6, .ref a7, .int (nI ps), .int (nI bk), .ref a8, .ref a9, .ref a10, .ref a11, .ref a12, .ref a13, .ref a14, .ref a15, .int (nI kf), .int lb, .int (nI lc), .long lo, .int (nI el), .int (nI ec), .long eo, .int eb, .long ed, .int (nI mp), .int (nI ml), .long md, .long mo, .int mb, .ref a16, .ref a17])), (a0, .inl (cI, 4097, .inl kd)), (a2, .inl (cI, 4097, .inl sr)), (a3, .inl (cI, 4097, .inl od)), (a4, .inl (cI, 4097, .inl sk)), (a6, .inl (cI, 258, .inl me)), (a7, .inl (cI, 8, .inl si)), (a14, .inl (cJ, 6, .inr (.inl su))), (a15, .inl (cJ, 6, .inr (.inl ke)))] := hD.sub [7, 8, 0, 1, 2, 3, 4, 5, 6] (by decide) ks_9_7_8_0_1_2_3_4_5_6
      have hw73 : r73 = kb_p False := hw73
      subst hw73
      refine kx_joinl (D := D) (cl := vwCl) (A := A) (ws := [(o, .inr (0, [.int (nI th), .int (nI cn), .ref a0, .ref a1, .ref a2, .ref a3, .ref a4, .ref a5, .int (nI mn), .ref a6, .ref a7, .int (nI ps), .int (nI bk), .ref a8, .ref a9, .ref a10, .ref a11, .ref a12, .ref a13, .ref a14, .ref a15, .int (nI kf), .int lb, .int (nI lc), .long lo, .int (nI el), .int (nI ec), .long eo, .int eb, .long ed, .int (nI mp), .int (nI ml), .long md, .long mo, .int mb, .ref a16, .ref a17])), (a0, .inl (cI, 4097, .inl kd)), (a2, .inl (cI, 4097, .inl sr)), (a3, .inl (cI, 4097, .inl od)), (a4, .inl (cI, 4097, .inl sk)), (a6, .inl (cI, 258, .inl me)), (a7, .inl (cI, 8, .inl si)), (a14, .inl (cJ, 6, .inr (.inl su))), (a15, .inl (cJ, 6, .inr (.inl ke)))]) (Y := 90) (ls1 := ls) (st1 := [.long w2]) ((0 : Int64)) (fun v90 H locs e_v90 hP hD hS => ?_) (fun K90 => ?_)
      · skip
        refine lv_ladd hx hb dd_M_weigh_90 ?_
        refine lv_topl (fun w3 e_w3 => ?_)
        refine lv_lstore (lv' := [(5, .long w3), (4, .int (kb_p True)), (0, .ref o), (1, .int (-1)), (2, .int (nI b)), (3, .int (nI n))]) hx hb dd_M_weigh_91 hl (by decide) rfl (fun ls hl => ?_)
        refine lv_aload_n hx hb dd_M_weigh_93 rfl (lv_at hl 2 rfl) ?_
        refine va_get (D := D) (ci := 0) (v := .ref a6) (C := rr_M) (T := tt_M) (N := 37) hx hb hts hin0 hown hK hP 0 kg_9_0 rfl 9 (by decide) lk4 (fun _ h9 => h9) rfl dd_M_weigh_94 ?_
        refine lv_iload_n hx hb dd_M_weigh_97 rfl (lv_at hl 5 rfl) ?_
        refine lv_aload_n hx hb dd_M_weigh_98 rfl (lv_at hl 2 rfl) ?_
        refine va_get (D := D) (ci := 0) (v := .int (nI mn)) (C := rr_M) (T := tt_M) (N := 37) hx hb hts hin0 hown hK hP 0 kg_9_0 rfl 8 (by decide) lk5 (fun _ h9 => h9) rfl dd_M_weigh_99 ?_
        refine kx_joini (D := D) (cl := vwCl) (A := A) (ws := [(o, .inr (0, [.int (nI th), .int (nI cn), .ref a0, .ref a1, .ref a2, .ref a3, .ref a4, .ref a5, .int (nI mn), .ref a6, .ref a7, .int (nI ps), .int (nI bk), .ref a8, .ref a9, .ref a10, .ref a11, .ref a12, .ref a13, .ref a14, .ref a15, .int (nI kf), .int lb, .int (nI lc), .long lo, .int (nI el), .int (nI ec), .long eo, .int eb, .long ed, .int (nI mp), .int (nI ml), .long md, .long mo, .int mb, .ref a16, .ref a17])), (a0, .inl (cI, 4097, .inl kd)), (a2, .inl (cI, 4097, .inl sr)), (a3, .inl (cI, 4097, .inl od)), (a4, .inl (cI, 4097, .inl sk)), (a6, .inl (cI, 258, .inl me)), (a7, .inl (cI, 8, .inl si)), (a14, .inl (cJ, 6, .inr (.inl su))), (a15, .inl (cJ, 6, .inr (.inl ke)))]) (Y := 113) (ls1 := ls) (st1 := [.ref a6]) (if mn ≤ n then (nI mn) else (nI n)) (fun v113 H locs e_v113 hP hD hS => ?_) (fun K113 => ?_)
        · skip
          obtain rfl : v113 = nI (pm_mi n mn) := by rw [e_v113]; unfold pm_mi; split <;> rfl
          have hmi := @pm_mi_le n mn
          refine kx_iald (q0 := 5) (t0 := 0) hx hb dd_M_weigh_113 hK hP kg_9_5 rfl (by omega) (by omega) ?_
          refine lv_i2l hx hb dd_M_weigh_114 rfl ?_
          refine lv_lload hx hb dd_M_weigh_115 (lv_at hl 0 rfl) ?_
          refine lv_lsub hx hb dd_M_weigh_117 ?_
          refine lv_topl (fun ex e_ex => ?_)
          refine lv_lstore (lv' := [(7, .long ex), (5, .long w3), (4, .int (kb_p True)), (0, .ref o), (1, .int (-1)), (2, .int (nI b)), (3, .int (nI n))]) hx hb dd_M_weigh_118 hl (by decide) rfl (fun ls hl => ?_)
          refine lv_iload hx hb dd_M_weigh_120 (lv_at hl 2 rfl) ?_
          refine kx_joinl (D := D) (cl := vwCl) (A := A) (ws := [(o, .inr (0, [.int (nI th), .int (nI cn), .ref a0, .ref a1, .ref a2, .ref a3, .ref a4, .ref a5, .int (nI mn), .ref a6, .ref a7, .int (nI ps), .int (nI bk), .ref a8, .ref a9, .ref a10, .ref a11, .ref a12, .ref a13, .ref a14, .ref a15, .int (nI kf), .int lb, .int (nI lc), .long lo, .int (nI el), .int (nI ec), .long eo, .int eb, .long ed, .int (nI mp), .int (nI ml), .long md, .long mo, .int mb, .ref a16, .ref a17])), (a0, .inl (cI, 4097, .inl kd)), (a2, .inl (cI, 4097, .inl sr)), (a3, .inl (cI, 4097, .inl od)), (a4, .inl (cI, 4097, .inl sk)), (a6, .inl (cI, 258, .inl me)), (a7, .inl (cI, 8, .inl si)), (a14, .inl (cJ, 6, .inr (.inl su))), (a15, .inl (cJ, 6, .inr (.inl ke)))]) (Y := 140) (ls1 := ls) (st1 := []) (su 1) (fun v140 H locs e_v140 hP hD hS => ?_) (fun K140 => ?_)
          · skip
            refine lv_lstore (lv' := [(9, .long v140), (7, .long ex), (5, .long w3), (4, .int (kb_p True)), (0, .ref o), (1, .int (-1)), (2, .int (nI b)), (3, .int (nI n))]) hx hb dd_M_weigh_140 hl (by decide) rfl (fun ls hl => ?_)
            refine lv_iload hx hb dd_M_weigh_142 (lv_at hl 3 rfl) ?_
            refine kx_joinl (D := D) (cl := vwCl) (A := A) (ws := [(o, .inr (0, [.int (nI th), .int (nI cn), .ref a0, .ref a1, .ref a2, .ref a3, .ref a4, .ref a5, .int (nI mn), .ref a6, .ref a7, .int (nI ps), .int (nI bk), .ref a8, .ref a9, .ref a10, .ref a11, .ref a12, .ref a13, .ref a14, .ref a15, .int (nI kf), .int lb, .int (nI lc), .long lo, .int (nI el), .int (nI ec), .long eo, .int eb, .long ed, .int (nI mp), .int (nI ml), .long md, .long mo, .int mb, .ref a16, .ref a17])), (a0, .inl (cI, 4097, .inl kd)), (a2, .inl (cI, 4097, .inl sr)), (a3, .inl (cI, 4097, .inl od)), (a4, .inl (cI, 4097, .inl sk)), (a6, .inl (cI, 258, .inl me)), (a7, .inl (cI, 8, .inl si)), (a14, .inl (cJ, 6, .inr (.inl su))), (a15, .inl (cJ, 6, .inr (.inl ke)))]) (Y := 190) (ls1 := ls) (st1 := []) (((su 2) + (su 3)) + (su 4)) (fun v190 H locs e_v190 hP hD hS => ?_) (fun K190 => ?_)
            · skip
              refine lv_lstore (lv' := [(11, .long v190), (9, .long v140), (7, .long ex), (5, .long w3), (4, .int (kb_p True)), (0, .ref o), (1, .int (-1)), (2, .int (nI b)), (3, .int (nI n))]) hx hb dd_M_weigh_190 hl (by decide) rfl (fun ls hl => ?_)
              refine lv_iload hx hb dd_M_weigh_192 (lv_at hl 4 rfl) ?_
              refine kx_joinl (D := D) (cl := vwCl) (A := A) (ws := [(o, .inr (0, [.int (nI th), .int (nI cn), .ref a0, .ref a1, .ref a2, .ref a3, .ref a4, .ref a5, .int (nI mn), .ref a6, .ref a7, .int (nI ps), .int (nI bk), .ref a8, .ref a9, .ref a10, .ref a11, .ref a12, .ref a13, .ref a14, .ref a15, .int (nI kf), .int lb, .int (nI lc), .long lo, .int (nI el), .int (nI ec), .long eo, .int eb, .long ed, .int (nI mp), .int (nI ml), .long md, .long mo, .int mb, .ref a16, .ref a17])), (a0, .inl (cI, 4097, .inl kd)), (a2, .inl (cI, 4097, .inl sr)), (a3, .inl (cI, 4097, .inl od)), (a4, .inl (cI, 4097, .inl sk)), (a6, .inl (cI, 258, .inl me)), (a7, .inl (cI, 8, .inl si)), (a14, .inl (cJ, 6, .inr (.inl su))), (a15, .inl (cJ, 6, .inr (.inl ke)))]) (Y := 212) (ls1 := ls) (st1 := []) (su 5) (fun v212 H locs e_v212 hP hD hS => ?_) (fun K212 => ?_)
              · skip
                refine lv_aload_n hx hb dd_M_weigh_212 rfl (lv_at hl 5 rfl) ?_
                refine va_get (D := D) (ci := 0) (v := .ref a7) (C := rr_M) (T := tt_M) (N := 37) hx hb hts hin0 hown hK hP 0 kg_9_0 rfl 10 (by decide) lk2 (fun _ h9 => h9) rfl dd_M_weigh_213 ?_
                refine lv_iconst (v := nI 3) hx hb dd_M_weigh_216 (by decide) ?_
                refine kx_iald (q0 := 6) (t0 := 0) hx hb dd_M_weigh_217 hK hP kg_9_6 rfl (by omega) (by omega) ?_
                refine lv_i2l hx hb dd_M_weigh_218 rfl ?_
                refine lv_ladd hx hb dd_M_weigh_219 ?_
                refine lv_aload_n hx hb dd_M_weigh_220 rfl (lv_at hl 5 rfl) ?_
                refine va_get (D := D) (ci := 0) (v := .ref a7) (C := rr_M) (T := tt_M) (N := 37) hx hb hts hin0 hown hK hP 0 kg_9_0 rfl 10 (by decide) lk2 (fun _ h9 => h9) rfl dd_M_weigh_221 ?_
                refine lv_bipush (v := nI 7) hx hb dd_M_weigh_224 (by decide) ?_
                refine kx_iald (q0 := 6) (t0 := 0) hx hb dd_M_weigh_226 hK hP kg_9_6 rfl (by omega) (by omega) ?_
                refine lv_i2l hx hb dd_M_weigh_227 rfl ?_
                refine lv_ladd hx hb dd_M_weigh_228 ?_
                refine lv_topl (fun le e_le => ?_)
                refine lv_lstore (lv' := [(13, .long le), (11, .long v190), (9, .long v140), (7, .long ex), (5, .long w3), (4, .int (kb_p True)), (0, .ref o), (1, .int (-1)), (2, .int (nI b)), (3, .int (nI n))]) hx hb dd_M_weigh_229 hl (by decide) rfl (fun ls hl => ?_)
                refine lv_iconst (v := nI 0) hx hb dd_M_weigh_231 (by decide) ?_
                refine lv_istore (lv' := [(15, .int (nI 0)), (13, .long le), (11, .long v190), (9, .long v140), (7, .long ex), (5, .long w3), (4, .int (kb_p True)), (0, .ref o), (1, .int (-1)), (2, .int (nI b)), (3, .int (nI n))]) hx hb dd_M_weigh_232 hl (by decide) rfl (fun ls hl => ?_)
                refine lv_iload hx hb dd_M_weigh_234 (lv_at hl 0 rfl) ?_
                refine lv_bipush (v := nI 8) hx hb dd_M_weigh_236 (by decide) ?_
                refine lv_icmp_ge (tgt := 309) hx hb dd_M_weigh_238 (by decide) (fun h => absurd h (by decide +kernel)) (fun _ => ?_)
                refine lv_lload hx hb dd_M_weigh_241 (lv_at hl 3 rfl) ?_
                refine lv_aload_n hx hb dd_M_weigh_243 rfl (lv_at hl 7 rfl) ?_
                refine va_get (D := D) (ci := 0) (v := .ref a7) (C := rr_M) (T := tt_M) (N := 37) hx hb hts hin0 hown hK hP 0 kg_9_0 rfl 10 (by decide) lk2 (fun _ h9 => h9) rfl dd_M_weigh_244 ?_
                refine lv_iload hx hb dd_M_weigh_247 (lv_at hl 0 rfl) ?_
                refine lv_iconst (v := nI 2) hx hb dd_M_weigh_249 (by decide) ?_
                refine kx_iadd hx hb dd_M_weigh_250 ?_
                refine kx_iald (q0 := 6) (t0 := 0) hx hb dd_M_weigh_251 hK hP kg_9_6 rfl (by omega) (by omega) ?_
                refine kx_joinl (D := D) (cl := vwCl) (A := A) (ws := [(o, .inr (0, [.int (nI th), .int (nI cn), .ref a0, .ref a1, .ref a2, .ref a3, .ref a4, .ref a5, .int (nI mn), .ref a6, .ref a7, .int (nI ps), .int (nI bk), .ref a8, .ref a9, .ref a10, .ref a11, .ref a12, .ref a13, .ref a14, .ref a15, .int (nI kf), .int lb, .int (nI lc), .long lo, .int (nI el), .int (nI ec), .long eo, .int eb, .long ed, .int (nI mp), .int (nI ml), .long md, .long mo, .int mb, .ref a16, .ref a17])), (a0, .inl (cI, 4097, .inl kd)), (a2, .inl (cI, 4097, .inl sr)), (a3, .inl (cI, 4097, .inl od)), (a4, .inl (cI, 4097, .inl sk)), (a6, .inl (cI, 258, .inl me)), (a7, .inl (cI, 8, .inl si)), (a14, .inl (cJ, 6, .inr (.inl su))), (a15, .inl (cJ, 6, .inr (.inl ke)))]) (Y := 269) (ls1 := ls) (st1 := [.long v140]) (if (si 2) = 0 then ((si 1).toInt64) else (0 : Int64)) (fun v269 H locs e_v269 hP hD hS => ?_) (fun K269 => ?_)
                · skip
                  refine lv_ladd hx hb dd_M_weigh_269 ?_
                  refine lv_topl (fun pl e_pl => ?_)
                  refine lv_lstore (lv' := [(9, .long pl), (15, .int (nI 0)), (13, .long le), (11, .long v190), (7, .long ex), (5, .long w3), (4, .int (kb_p True)), (0, .ref o), (1, .int (-1)), (2, .int (nI b)), (3, .int (nI n))]) hx hb dd_M_weigh_270 hl (by decide) rfl (fun ls hl => ?_)
                  refine lv_lload hx hb dd_M_weigh_272 (lv_at hl 3 rfl) ?_
                  refine lv_aload_n hx hb dd_M_weigh_274 rfl (lv_at hl 7 rfl) ?_
                  refine va_get (D := D) (ci := 0) (v := .ref a7) (C := rr_M) (T := tt_M) (N := 37) hx hb hts hin0 hown hK hP 0 kg_9_0 rfl 10 (by decide) lk2 (fun _ h9 => h9) rfl dd_M_weigh_275 ?_
                  refine lv_iload hx hb dd_M_weigh_278 (lv_at hl 1 rfl) ?_
                  refine lv_iconst (v := nI 2) hx hb dd_M_weigh_280 (by decide) ?_
                  refine kx_iadd hx hb dd_M_weigh_281 ?_
                  refine kx_iald (q0 := 6) (t0 := 0) hx hb dd_M_weigh_282 hK hP kg_9_6 rfl (by omega) (by omega) ?_
                  refine kx_joinl (D := D) (cl := vwCl) (A := A) (ws := [(o, .inr (0, [.int (nI th), .int (nI cn), .ref a0, .ref a1, .ref a2, .ref a3, .ref a4, .ref a5, .int (nI mn), .ref a6, .ref a7, .int (nI ps), .int (nI bk), .ref a8, .ref a9, .ref a10, .ref a11, .ref a12, .ref a13, .ref a14, .ref a15, .int (nI kf), .int lb, .int (nI lc), .long lo, .int (nI el), .int (nI ec), .long eo, .int eb, .long ed, .int (nI mp), .int (nI ml), .long md, .long mo, .int mb, .ref a16, .ref a17])), (a0, .inl (cI, 4097, .inl kd)), (a2, .inl (cI, 4097, .inl sr)), (a3, .inl (cI, 4097, .inl od)), (a4, .inl (cI, 4097, .inl sk)), (a6, .inl (cI, 258, .inl me)), (a7, .inl (cI, 8, .inl si)), (a14, .inl (cJ, 6, .inr (.inl su))), (a15, .inl (cJ, 6, .inr (.inl ke)))]) (Y := 300) (ls1 := ls) (st1 := [.long v190]) (if (si 2) ≤ 0 then (0 : Int64) else ((si 1).toInt64)) (fun v300 H locs e_v300 hP hD hS => ?_) (fun K300 => ?_)
                  · skip
                    refine lv_ladd hx hb dd_M_weigh_300 ?_
                    refine lv_topl (fun fa e_fa => ?_)
                    refine lv_lstore (lv' := [(11, .long fa), (9, .long pl), (15, .int (nI 0)), (13, .long le), (7, .long ex), (5, .long w3), (4, .int (kb_p True)), (0, .ref o), (1, .int (-1)), (2, .int (nI b)), (3, .int (nI n))]) hx hb dd_M_weigh_301 hl (by decide) rfl (fun ls hl => ?_)
                    refine lv_iinc (v := nI 4) (lv' := [(15, .int (nI 4)), (11, .long fa), (9, .long pl), (13, .long le), (7, .long ex), (5, .long w3), (4, .int (kb_p True)), (0, .ref o), (1, .int (-1)), (2, .int (nI b)), (3, .int (nI n))]) hx hb dd_M_weigh_303 hl (k := 2) rfl (nI_add 0 4) (by decide) rfl (fun ls hl => ?_)
                    refine lv_goto (tgt := 234) hx hb dd_M_weigh_306 (by decide) ?_
                    refine lv_iload hx hb dd_M_weigh_234 (lv_at hl 0 rfl) ?_
                    refine lv_bipush (v := nI 8) hx hb dd_M_weigh_236 (by decide) ?_
                    refine lv_icmp_ge (tgt := 309) hx hb dd_M_weigh_238 (by decide) (fun h => absurd h (by decide +kernel)) (fun _ => ?_)
                    refine lv_lload hx hb dd_M_weigh_241 (lv_at hl 2 rfl) ?_
                    refine lv_aload_n hx hb dd_M_weigh_243 rfl (lv_at hl 7 rfl) ?_
                    refine va_get (D := D) (ci := 0) (v := .ref a7) (C := rr_M) (T := tt_M) (N := 37) hx hb hts hin0 hown hK hP 0 kg_9_0 rfl 10 (by decide) lk2 (fun _ h9 => h9) rfl dd_M_weigh_244 ?_
                    refine lv_iload hx hb dd_M_weigh_247 (lv_at hl 0 rfl) ?_
                    refine lv_iconst (v := nI 2) hx hb dd_M_weigh_249 (by decide) ?_
                    refine kx_iadd hx hb dd_M_weigh_250 ?_
                    refine kx_iald (q0 := 6) (t0 := 0) hx hb dd_M_weigh_251 hK hP kg_9_6 rfl (by omega) (by omega) ?_
                    refine kx_joinl (D := D) (cl := vwCl) (A := A) (ws := [(o, .inr (0, [.int (nI th), .int (nI cn), .ref a0, .ref a1, .ref a2, .ref a3, .ref a4, .ref a5, .int (nI mn), .ref a6, .ref a7, .int (nI ps), .int (nI bk), .ref a8, .ref a9, .ref a10, .ref a11, .ref a12, .ref a13, .ref a14, .ref a15, .int (nI kf), .int lb, .int (nI lc), .long lo, .int (nI el), .int (nI ec), .long eo, .int eb, .long ed, .int (nI mp), .int (nI ml), .long md, .long mo, .int mb, .ref a16, .ref a17])), (a0, .inl (cI, 4097, .inl kd)), (a2, .inl (cI, 4097, .inl sr)), (a3, .inl (cI, 4097, .inl od)), (a4, .inl (cI, 4097, .inl sk)), (a6, .inl (cI, 258, .inl me)), (a7, .inl (cI, 8, .inl si)), (a14, .inl (cJ, 6, .inr (.inl su))), (a15, .inl (cJ, 6, .inr (.inl ke)))]) (Y := 269) (ls1 := ls) (st1 := [.long pl]) (if (si 6) = 0 then ((si 5).toInt64) else (0 : Int64)) (fun v269_2 H locs e_v269_2 hP hD hS => ?_) (fun K269_2 => ?_)
                    · skip
                      refine lv_ladd hx hb dd_M_weigh_269 ?_
                      refine lv_topl (fun pl_2 e_pl_2 => ?_)
                      refine lv_lstore (lv' := [(9, .long pl_2), (15, .int (nI 4)), (11, .long fa), (13, .long le), (7, .long ex), (5, .long w3), (4, .int (kb_p True)), (0, .ref o), (1, .int (-1)), (2, .int (nI b)), (3, .int (nI n))]) hx hb dd_M_weigh_270 hl (by decide) rfl (fun ls hl => ?_)
                      refine lv_lload hx hb dd_M_weigh_272 (lv_at hl 2 rfl) ?_
                      refine lv_aload_n hx hb dd_M_weigh_274 rfl (lv_at hl 7 rfl) ?_
                      refine va_get (D := D) (ci := 0) (v := .ref a7) (C := rr_M) (T := tt_M) (N := 37) hx hb hts hin0 hown hK hP 0 kg_9_0 rfl 10 (by decide) lk2 (fun _ h9 => h9) rfl dd_M_weigh_275 ?_
                      refine lv_iload hx hb dd_M_weigh_278 (lv_at hl 1 rfl) ?_
                      refine lv_iconst (v := nI 2) hx hb dd_M_weigh_280 (by decide) ?_
                      refine kx_iadd hx hb dd_M_weigh_281 ?_
                      refine kx_iald (q0 := 6) (t0 := 0) hx hb dd_M_weigh_282 hK hP kg_9_6 rfl (by omega) (by omega) ?_
                      refine kx_joinl (D := D) (cl := vwCl) (A := A) (ws := [(o, .inr (0, [.int (nI th), .int (nI cn), .ref a0, .ref a1, .ref a2, .ref a3, .ref a4, .ref a5, .int (nI mn), .ref a6, .ref a7, .int (nI ps), .int (nI bk), .ref a8, .ref a9, .ref a10, .ref a11, .ref a12, .ref a13, .ref a14, .ref a15, .int (nI kf), .int lb, .int (nI lc), .long lo, .int (nI el), .int (nI ec), .long eo, .int eb, .long ed, .int (nI mp), .int (nI ml), .long md, .long mo, .int mb, .ref a16, .ref a17])), (a0, .inl (cI, 4097, .inl kd)), (a2, .inl (cI, 4097, .inl sr)), (a3, .inl (cI, 4097, .inl od)), (a4, .inl (cI, 4097, .inl sk)), (a6, .inl (cI, 258, .inl me)), (a7, .inl (cI, 8, .inl si)), (a14, .inl (cJ, 6, .inr (.inl su))), (a15, .inl (cJ, 6, .inr (.inl ke)))]) (Y := 300) (ls1 := ls) (st1 := [.long fa]) (if (si 6) ≤ 0 then (0 : Int64) else ((si 5).toInt64)) (fun v300_2 H locs e_v300_2 hP hD hS => ?_) (fun K300_2 => ?_)
                      · skip
                        refine lv_ladd hx hb dd_M_weigh_300 ?_
                        refine lv_topl (fun fa_2 e_fa_2 => ?_)
                        refine lv_lstore (lv' := [(11, .long fa_2), (9, .long pl_2), (15, .int (nI 4)), (13, .long le), (7, .long ex), (5, .long w3), (4, .int (kb_p True)), (0, .ref o), (1, .int (-1)), (2, .int (nI b)), (3, .int (nI n))]) hx hb dd_M_weigh_301 hl (by decide) rfl (fun ls hl => ?_)
                        refine lv_iinc (v := nI 8) (lv' := [(15, .int (nI 8)), (11, .long fa_2), (9, .long pl_2), (13, .long le), (7, .long ex), (5, .long w3), (4, .int (kb_p True)), (0, .ref o), (1, .int (-1)), (2, .int (nI b)), (3, .int (nI n))]) hx hb dd_M_weigh_303 hl (k := 2) rfl (nI_add 4 4) (by decide) rfl (fun ls hl => ?_)
                        refine lv_goto (tgt := 234) hx hb dd_M_weigh_306 (by decide) ?_
                        refine lv_iload hx hb dd_M_weigh_234 (lv_at hl 0 rfl) ?_
                        refine lv_bipush (v := nI 8) hx hb dd_M_weigh_236 (by decide) ?_
                        refine lv_icmp_ge (tgt := 309) hx hb dd_M_weigh_238 (by decide) (fun _ => ?_) (fun h => absurd (by decide +kernel) h)
                        refine lv_aload_n hx hb dd_M_weigh_309 rfl (lv_at hl 7 rfl) ?_
                        refine lv_lconst (v := 0) hx hb dd_M_weigh_310 (by decide) ?_
                        refine va_put (D := D) (ci := 0) (v := .long (0 : Int64)) (ty := .long) (C := rr_M) (T := tt_M) (N := 37) hx hb hts hin0 ft_M ft_M_ok nn_M hown hK hP hD hS 0 kg_9_0 rfl 24 (by decide) lk6 (fun _ h9 => h9) rfl (by decide +kernel) rfl rfl (Nat.le_of_ble_eq_true rfl) dd_M_weigh_311 (fun H locs hP hD hS => ?_)
                        have hP : va_P D vwCl [(o, .inr (0, [.int (nI th), .int (nI cn), .ref a0, .ref a1, .ref a2, .ref a3, .ref a4, .ref a5, .int (nI mn), .ref a6, .ref a7, .int (nI ps), .int (nI bk), .ref a8, .ref a9, .ref a10, .ref a11, .ref a12, .ref a13, .ref a14, .ref a15, .int (nI kf), .int lb, .int (nI lc), .long (0 : Int64), .int (nI el), .int (nI ec), .long eo, .int eb, .long ed, .int (nI mp), .int (nI ml), .long md, .long mo, .int mb, .ref a16, .ref a17])), (a0, .inl (cI, 4097, .inl kd)), (a2, .inl (cI, 4097, .inl sr)), (a3, .inl (cI, 4097, .inl od)), (a4, .inl (cI, 4097, .inl sk)), (a6, .inl (cI, 258, .inl me)), (a7, .inl (cI, 8, .inl si)), (a14, .inl (cJ, 6, .inr (.inl su))), (a15, .inl (cJ, 6, .inr (.inl ke)))] H := kx_cP kz_9_0 hP
                        have hD : va_D A [(o, .inr (0, [.int (nI th), .int (nI cn), .ref a0, .ref a1, .ref a2, .ref a3, .ref a4, .ref a5, .int (nI mn), .ref a6, .ref a7, .int (nI ps), .int (nI bk), .ref a8, .ref a9, .ref a10, .ref a11, .ref a12, .ref a13, .ref a14, .ref a15, .int (nI kf), .int lb, .int (nI lc), .long (0 : Int64), .int (nI el), .int (nI ec), .long eo, .int eb, .long ed, .int (nI mp), .int (nI ml), .long md, .long mo, .int mb, .ref a16, .ref a17])), (a0, .inl (cI, 4097, .inl kd)), (a2, .inl (cI, 4097, .inl sr)), (a3, .inl (cI, 4097, .inl od)), (a4, .inl (cI, 4097, .inl sk)), (a6, .inl (cI, 258, .inl me)), (a7, .inl (cI, 8, .inl si)), (a14, .inl (cJ, 6, .inr (.inl su))), (a15, .inl (cJ, 6, .inr (.inl ke)))] := kx_cD kz_9_0 hD
                        refine lv_lload hx hb dd_M_weigh_314 (lv_at hl 4 rfl) ?_
                        refine lv_lconst (v := 0) hx hb dd_M_weigh_316 (by decide) ?_
                        refine W.lcmp hx hb dd_M_weigh_317 ?_
                        refine lv_if_lt (tgt := 377) hx hb dd_M_weigh_318 (by decide) (fun c318 => ?_) (fun c318 => ?_)
                        · skip
                          have c318 := (lg_cmp_lt _ _).mp c318
                          refine lv_lload hx hb dd_M_weigh_377 (lv_at hl 3 rfl) ?_
                          refine lv_lload hx hb dd_M_weigh_379 (lv_at hl 4 rfl) ?_
                          refine lv_lneg hx hb dd_M_weigh_381 ?_
                          refine W.lcmp hx hb dd_M_weigh_382 ?_
                          refine lv_if_ge (tgt := 411) hx hb dd_M_weigh_383 (by decide) (fun c383 => ?_) (fun c383 => ?_)
                          · skip
                            have c383 := (lg_cmp_ge _ _).mp c383
                            refine lv_aload_n hx hb dd_M_weigh_411 rfl (lv_at hl 7 rfl) ?_
                            refine lv_lload hx hb dd_M_weigh_412 (lv_at hl 4 rfl) ?_
                            refine lv_lneg hx hb dd_M_weigh_414 ?_
                            refine lv_lload hx hb dd_M_weigh_415 (lv_at hl 3 rfl) ?_
                            refine kx_calli (wr := [(o, .inr (0, [.int (nI th), .int (nI cn), .ref a0, .ref a1, .ref a2, .ref a3, .ref a4, .ref a5, .int (nI mn), .ref a6, .ref a7, .int (nI ps), .int (nI bk), .ref a8, .ref a9, .ref a10, .ref a11, .ref a12, .ref a13, .ref a14, .ref a15, .int (nI kf), .int lb, .int (nI lc), .long (0 : Int64), .int (nI el), .int (nI ec), .long eo, .int eb, .long ed, .int (nI mp), .int (nI ml), .long md, .long mo, .int mb, .ref a16, .ref a17])), (a0, .inl (cI, 4097, .inl kd)), (a2, .inl (cI, 4097, .inl sr)), (a3, .inl (cI, 4097, .inl od)), (a4, .inl (cI, 4097, .inl sk)), (a6, .inl (cI, 258, .inl me)), (a7, .inl (cI, 8, .inl si)), (a14, .inl (cJ, 6, .inr (.inl su))), (a15, .inl (cJ, 6, .inr (.inl ke)))]) (va_runS (As := [.long (-ex), .long le]) (rest := [.ref o]) ⟨hx, hb, hml, hown, hts⟩ (ct_M_badness l D cI cJ cZ H.size (-ex) le) ⟨(callB_of 2 hts (kx_good kw_1009) rfl rfl rfl (hts _ (kx_m kw_53)) (hts _ (kx_m kw_1007)) (by decide +kernel) ⟨Nat.le_of_ble_eq_true rfl, Nat.le_of_ble_eq_true rfl⟩), (hts _ (kx_m kw_1008))⟩ (kx_preS hK hN (hP.sub [] kt_9_) (hD.sub [] (by decide) ks_9_)) rfl rfl hl.1 rfl (lv_room (Nat.le_of_ble_eq_true rfl)) dd_M_weigh_417 ⟨Nat.le_of_ble_eq_true rfl, Nat.le_of_ble_eq_true rfl⟩) hP hD hS hA [] [0, 1, 2, 3, 4, 5, 6, 7, 8] ks_9_ ks_9_0_1_2_3_4_5_6_7_8 (by decide) (by decide) (fun r417 u417 H locs hw417 hP hD hS => ?_)
                            have hP : va_P D vwCl [(o, .inr (0, [.int (nI th), .int (nI cn), .ref a0, .ref a1, .ref a2, .ref a3, .ref a4, .ref a5, .int (nI mn), .ref a6, .ref a7, .int (nI ps), .int (nI bk), .ref a8, .ref a9, .ref a10, .ref a11, .ref a12, .ref a13, .ref a14, .ref a15, .int (nI kf), .int lb, .int (nI lc), .long (0 : Int64), .int (nI el), .int (nI ec), .long eo, .int eb, .long ed, .int (nI mp), .int (nI ml), .long md, .long mo, .int mb, .ref a16, .ref a17])), (a0, .inl (cI, 4097, .inl kd)), (a2, .inl (cI, 4097, .inl sr)), (a3, .inl (cI, 4097, .inl od)), (a4, .inl (cI, 4097, .inl sk)), (a6, .inl (cI, 258, .inl me)), (a7, .inl (cI, 8, .inl si)), (a14, .inl (cJ, 6, .inr (.inl su))), (a15, .inl (cJ, 6, .inr (.inl ke)))] H := hP
                            have hD : va_D A [(o, .inr (0, [.int (nI th), .int (nI cn), .ref a0, .ref a1, .ref a2, .ref a3, .ref a4, .ref a5, .int (nI mn), .ref a6, .ref a7, .int (nI ps), .int (nI bk), .ref a8, .ref a9, .ref a10, .ref a11, .ref a12, .ref a13, .ref a14, .ref a15, .int (nI kf), .int lb, .int (nI lc), .long (0 : Int64), .int (nI el), .int (nI ec), .long eo, .int eb, .long ed, .int (nI mp), .int (nI ml), .long md, .long mo, .int mb, .ref a16, .ref a17])), (a0, .inl (cI, 4097, .inl kd)), (a2, .inl (cI, 4097, .inl sr)), (a3, .inl (cI, 4097, .inl od)), (a4, .inl (cI, 4097, .inl sk)), (a6, .inl (cI, 258, .inl me)), (a7, .inl (cI, 8, .inl si)), (a14, .inl (cJ, 6, .inr (.inl su))), (a15, .inl (cJ, 6, .inr (.inl ke)))] := hD
                            have hw417 : r417 = pm_bad (-ex) le := hw417
                            subst hw417
                            refine lv_topi (fun lb4 e_lb4 => ?_)
                            refine va_put (D := D) (ci := 0) (v := .int lb4) (ty := .int) (C := rr_M) (T := tt_M) (N := 37) hx hb hts hin0 ft_M ft_M_ok nn_M hown hK hP hD hS 0 kg_9_0 rfl 22 (by decide) lk7 (fun _ h9 => h9) rfl (by decide +kernel) rfl rfl (Nat.le_of_ble_eq_true rfl) dd_M_weigh_420 (fun H locs hP hD hS => ?_)
                            have hP : va_P D vwCl [(o, .inr (0, [.int (nI th), .int (nI cn), .ref a0, .ref a1, .ref a2, .ref a3, .ref a4, .ref a5, .int (nI mn), .ref a6, .ref a7, .int (nI ps), .int (nI bk), .ref a8, .ref a9, .ref a10, .ref a11, .ref a12, .ref a13, .ref a14, .ref a15, .int (nI kf), .int lb4, .int (nI lc), .long (0 : Int64), .int (nI el), .int (nI ec), .long eo, .int eb, .long ed, .int (nI mp), .int (nI ml), .long md, .long mo, .int mb, .ref a16, .ref a17])), (a0, .inl (cI, 4097, .inl kd)), (a2, .inl (cI, 4097, .inl sr)), (a3, .inl (cI, 4097, .inl od)), (a4, .inl (cI, 4097, .inl sk)), (a6, .inl (cI, 258, .inl me)), (a7, .inl (cI, 8, .inl si)), (a14, .inl (cJ, 6, .inr (.inl su))), (a15, .inl (cJ, 6, .inr (.inl ke)))] H := kx_cP kz_9_0 hP
                            have hD : va_D A [(o, .inr (0, [.int (nI th), .int (nI cn), .ref a0, .ref a1, .ref a2, .ref a3, .ref a4, .ref a5, .int (nI mn), .ref a6, .ref a7, .int (nI ps), .int (nI bk), .ref a8, .ref a9, .ref a10, .ref a11, .ref a12, .ref a13, .ref a14, .ref a15, .int (nI kf), .int lb4, .int (nI lc), .long (0 : Int64), .int (nI el), .int (nI ec), .long eo, .int eb, .long ed, .int (nI mp), .int (nI ml), .long md, .long mo, .int mb, .ref a16, .ref a17])), (a0, .inl (cI, 4097, .inl kd)), (a2, .inl (cI, 4097, .inl sr)), (a3, .inl (cI, 4097, .inl od)), (a4, .inl (cI, 4097, .inl sk)), (a6, .inl (cI, 258, .inl me)), (a7, .inl (cI, 8, .inl si)), (a14, .inl (cJ, 6, .inr (.inl su))), (a15, .inl (cJ, 6, .inr (.inl ke)))] := kx_cD kz_9_0 hD
                            refine lv_aload_n hx hb dd_M_weigh_423 rfl (lv_at hl 7 rfl) ?_
                            refine lv_aload_n hx hb dd_M_weigh_424 rfl (lv_at hl 7 rfl) ?_
                            refine va_get (D := D) (ci := 0) (v := .int lb4) (C := rr_M) (T := tt_M) (N := 37) hx hb hts hin0 hown hK hP 0 kg_9_0 rfl 22 (by decide) lk7 (fun _ h9 => h9) rfl dd_M_weigh_425 ?_
                            refine lv_bipush (v := nI 12) hx hb dd_M_weigh_428 (by decide) ?_
                            refine kx_joini (D := D) (cl := vwCl) (A := A) (ws := [(o, .inr (0, [.int (nI th), .int (nI cn), .ref a0, .ref a1, .ref a2, .ref a3, .ref a4, .ref a5, .int (nI mn), .ref a6, .ref a7, .int (nI ps), .int (nI bk), .ref a8, .ref a9, .ref a10, .ref a11, .ref a12, .ref a13, .ref a14, .ref a15, .int (nI kf), .int lb4, .int (nI lc), .long (0 : Int64), .int (nI el), .int (nI ec), .long eo, .int eb, .long ed, .int (nI mp), .int (nI ml), .long md, .long mo, .int mb, .ref a16, .ref a17])), (a0, .inl (cI, 4097, .inl kd)), (a2, .inl (cI, 4097, .inl sr)), (a3, .inl (cI, 4097, .inl od)), (a4, .inl (cI, 4097, .inl sk)), (a6, .inl (cI, 258, .inl me)), (a7, .inl (cI, 8, .inl si)), (a14, .inl (cJ, 6, .inr (.inl su))), (a15, .inl (cJ, 6, .inr (.inl ke)))]) (Y := 438) (ls1 := ls) (st1 := [.ref o]) (if lb4 ≤ (nI 12) then (nI 2) else (nI 3)) (fun v438 H locs e_v438 hP hD hS => ?_) (fun K438 => ?_)
                            · skip
                              obtain rfl : v438 = nI (pm_c2 lb4) := by rw [e_v438]; unfold pm_c2; split <;> rfl
                              refine va_put (D := D) (ci := 0) (v := .int (nI (pm_c2 lb4))) (ty := .int) (C := rr_M) (T := tt_M) (N := 37) hx hb hts hin0 ft_M ft_M_ok nn_M hown hK hP hD hS 0 kg_9_0 rfl 23 (by decide) lk8 (fun _ h9 => h9) rfl (by decide +kernel) rfl rfl (Nat.le_of_ble_eq_true rfl) dd_M_weigh_438 (fun H locs hP hD hS => ?_)
                              have hP : va_P D vwCl [(o, .inr (0, [.int (nI th), .int (nI cn), .ref a0, .ref a1, .ref a2, .ref a3, .ref a4, .ref a5, .int (nI mn), .ref a6, .ref a7, .int (nI ps), .int (nI bk), .ref a8, .ref a9, .ref a10, .ref a11, .ref a12, .ref a13, .ref a14, .ref a15, .int (nI kf), .int lb4, .int (nI (pm_c2 lb4)), .long (0 : Int64), .int (nI el), .int (nI ec), .long eo, .int eb, .long ed, .int (nI mp), .int (nI ml), .long md, .long mo, .int mb, .ref a16, .ref a17])), (a0, .inl (cI, 4097, .inl kd)), (a2, .inl (cI, 4097, .inl sr)), (a3, .inl (cI, 4097, .inl od)), (a4, .inl (cI, 4097, .inl sk)), (a6, .inl (cI, 258, .inl me)), (a7, .inl (cI, 8, .inl si)), (a14, .inl (cJ, 6, .inr (.inl su))), (a15, .inl (cJ, 6, .inr (.inl ke)))] H := kx_cP kz_9_0 hP
                              have hD : va_D A [(o, .inr (0, [.int (nI th), .int (nI cn), .ref a0, .ref a1, .ref a2, .ref a3, .ref a4, .ref a5, .int (nI mn), .ref a6, .ref a7, .int (nI ps), .int (nI bk), .ref a8, .ref a9, .ref a10, .ref a11, .ref a12, .ref a13, .ref a14, .ref a15, .int (nI kf), .int lb4, .int (nI (pm_c2 lb4)), .long (0 : Int64), .int (nI el), .int (nI ec), .long eo, .int eb, .long ed, .int (nI mp), .int (nI ml), .long md, .long mo, .int mb, .ref a16, .ref a17])), (a0, .inl (cI, 4097, .inl kd)), (a2, .inl (cI, 4097, .inl sr)), (a3, .inl (cI, 4097, .inl od)), (a4, .inl (cI, 4097, .inl sk)), (a6, .inl (cI, 258, .inl me)), (a7, .inl (cI, 8, .inl si)), (a14, .inl (cJ, 6, .inr (.inl su))), (a15, .inl (cJ, 6, .inr (.inl ke)))] := kx_cD kz_9_0 hD
                              have hX : ex = pm_ex su si (if pm_hy kd cn b then (sr b).toInt64 else 0) 0 (me (pm_mi n mn)) := by rw [e_ex, e_w3, e_w2, e_w1, e_v27, e_v66, e_v90]; rfl
                              have hPl : pl_2 = pm_pl su si := by rw [e_pl_2, e_pl, e_v140, e_v269, e_v269_2]; rfl
                              have hFa : fa_2 = pm_fa su si := by rw [e_fa_2, e_fa, e_v190, e_v300, e_v300_2]; first | rfl | (unfold pm_fa pm_S; split <;> rfl)
                              have hLe : le = pm_le su si := by rw [e_le, e_v212]; rfl
                              rw [hQ]
                              exact kx_vret hx hb hr hlocks hK hN hS dd_M_weigh_441 (lb4, pm_c2 lb4, ((0 : Int64))) hP hD (by rw [← hX, ← hPl, ← hFa, ← hLe]; first | (rw [e_v340]; simp only [pm_lb, pm_lc, pm_lo, c318, c383, if_true, if_false, and_self]; done) | (rw [e_lb4]; simp only [pm_lb, pm_lc, pm_lo, c318, c383, if_true, if_false, and_self]; done) | (simp only [pm_lb, pm_lc, pm_lo, c318, c383, if_true, if_false, and_self]; done))
                            · skip
                              refine lv_icmp_le (tgt := 437) hx hb dd_M_weigh_430 (by decide) (fun c430 => ?_) (fun c430 => ?_)
                              · skip
                                refine lv_iconst (v := nI 2) hx hb dd_M_weigh_437 (by decide) ?_
                                exact K438 _ H locs (by rw [if_pos c430]) hP hD hS
                              · skip
                                refine lv_iconst (v := nI 3) hx hb dd_M_weigh_433 (by decide) ?_
                                refine lv_goto (tgt := 438) hx hb dd_M_weigh_434 (by decide) ?_
                                exact K438 _ H locs (by rw [if_neg c430]) hP hD hS
                          · skip
                            have c383 : ¬ ((-ex) ≤ le) := fun h => c383 ((lg_cmp_ge _ _).mpr h)
                            refine lv_aload_n hx hb dd_M_weigh_386 rfl (lv_at hl 7 rfl) ?_
                            refine lv_lload hx hb dd_M_weigh_387 (lv_at hl 4 rfl) ?_
                            refine lv_lneg hx hb dd_M_weigh_389 ?_
                            refine lv_lload hx hb dd_M_weigh_390 (lv_at hl 3 rfl) ?_
                            refine lv_lsub hx hb dd_M_weigh_392 ?_
                            refine va_put (D := D) (ci := 0) (v := .long ((-ex) - le)) (ty := .long) (C := rr_M) (T := tt_M) (N := 37) hx hb hts hin0 ft_M ft_M_ok nn_M hown hK hP hD hS 0 kg_9_0 rfl 24 (by decide) lk6 (fun _ h9 => h9) rfl (by decide +kernel) rfl rfl (Nat.le_of_ble_eq_true rfl) dd_M_weigh_393 (fun H locs hP hD hS => ?_)
                            have hP : va_P D vwCl [(o, .inr (0, [.int (nI th), .int (nI cn), .ref a0, .ref a1, .ref a2, .ref a3, .ref a4, .ref a5, .int (nI mn), .ref a6, .ref a7, .int (nI ps), .int (nI bk), .ref a8, .ref a9, .ref a10, .ref a11, .ref a12, .ref a13, .ref a14, .ref a15, .int (nI kf), .int lb, .int (nI lc), .long ((-ex) - le), .int (nI el), .int (nI ec), .long eo, .int eb, .long ed, .int (nI mp), .int (nI ml), .long md, .long mo, .int mb, .ref a16, .ref a17])), (a0, .inl (cI, 4097, .inl kd)), (a2, .inl (cI, 4097, .inl sr)), (a3, .inl (cI, 4097, .inl od)), (a4, .inl (cI, 4097, .inl sk)), (a6, .inl (cI, 258, .inl me)), (a7, .inl (cI, 8, .inl si)), (a14, .inl (cJ, 6, .inr (.inl su))), (a15, .inl (cJ, 6, .inr (.inl ke)))] H := kx_cP kz_9_0 hP
                            have hD : va_D A [(o, .inr (0, [.int (nI th), .int (nI cn), .ref a0, .ref a1, .ref a2, .ref a3, .ref a4, .ref a5, .int (nI mn), .ref a6, .ref a7, .int (nI ps), .int (nI bk), .ref a8, .ref a9, .ref a10, .ref a11, .ref a12, .ref a13, .ref a14, .ref a15, .int (nI kf), .int lb, .int (nI lc), .long ((-ex) - le), .int (nI el), .int (nI ec), .long eo, .int eb, .long ed, .int (nI mp), .int (nI ml), .long md, .long mo, .int mb, .ref a16, .ref a17])), (a0, .inl (cI, 4097, .inl kd)), (a2, .inl (cI, 4097, .inl sr)), (a3, .inl (cI, 4097, .inl od)), (a4, .inl (cI, 4097, .inl sk)), (a6, .inl (cI, 258, .inl me)), (a7, .inl (cI, 8, .inl si)), (a14, .inl (cJ, 6, .inr (.inl su))), (a15, .inl (cJ, 6, .inr (.inl ke)))] := kx_cD kz_9_0 hD
                            refine lv_aload_n hx hb dd_M_weigh_396 rfl (lv_at hl 7 rfl) ?_
                            refine lv_sipush (v := nI 10000) hx hb dd_M_weigh_397 (by decide) ?_
                            refine va_put (D := D) (ci := 0) (v := .int (nI 10000)) (ty := .int) (C := rr_M) (T := tt_M) (N := 37) hx hb hts hin0 ft_M ft_M_ok nn_M hown hK hP hD hS 0 kg_9_0 rfl 22 (by decide) lk7 (fun _ h9 => h9) rfl (by decide +kernel) rfl rfl (Nat.le_of_ble_eq_true rfl) dd_M_weigh_400 (fun H locs hP hD hS => ?_)
                            have hP : va_P D vwCl [(o, .inr (0, [.int (nI th), .int (nI cn), .ref a0, .ref a1, .ref a2, .ref a3, .ref a4, .ref a5, .int (nI mn), .ref a6, .ref a7, .int (nI ps), .int (nI bk), .ref a8, .ref a9, .ref a10, .ref a11, .ref a12, .ref a13, .ref a14, .ref a15, .int (nI kf), .int (nI 10000), .int (nI lc), .long ((-ex) - le), .int (nI el), .int (nI ec), .long eo, .int eb, .long ed, .int (nI mp), .int (nI ml), .long md, .long mo, .int mb, .ref a16, .ref a17])), (a0, .inl (cI, 4097, .inl kd)), (a2, .inl (cI, 4097, .inl sr)), (a3, .inl (cI, 4097, .inl od)), (a4, .inl (cI, 4097, .inl sk)), (a6, .inl (cI, 258, .inl me)), (a7, .inl (cI, 8, .inl si)), (a14, .inl (cJ, 6, .inr (.inl su))), (a15, .inl (cJ, 6, .inr (.inl ke)))] H := kx_cP kz_9_0 hP
                            have hD : va_D A [(o, .inr (0, [.int (nI th), .int (nI cn), .ref a0, .ref a1, .ref a2, .ref a3, .ref a4, .ref a5, .int (nI mn), .ref a6, .ref a7, .int (nI ps), .int (nI bk), .ref a8, .ref a9, .ref a10, .ref a11, .ref a12, .ref a13, .ref a14, .ref a15, .int (nI kf), .int (nI 10000), .int (nI lc), .long ((-ex) - le), .int (nI el), .int (nI ec), .long eo, .int eb, .long ed, .int (nI mp), .int (nI ml), .long md, .long mo, .int mb, .ref a16, .ref a17])), (a0, .inl (cI, 4097, .inl kd)), (a2, .inl (cI, 4097, .inl sr)), (a3, .inl (cI, 4097, .inl od)), (a4, .inl (cI, 4097, .inl sk)), (a6, .inl (cI, 258, .inl me)), (a7, .inl (cI, 8, .inl si)), (a14, .inl (cJ, 6, .inr (.inl su))), (a15, .inl (cJ, 6, .inr (.inl ke)))] := kx_cD kz_9_0 hD
                            refine lv_aload_n hx hb dd_M_weigh_403 rfl (lv_at hl 7 rfl) ?_
                            refine lv_iconst (v := nI 3) hx hb dd_M_weigh_404 (by decide) ?_
                            refine va_put (D := D) (ci := 0) (v := .int (nI 3)) (ty := .int) (C := rr_M) (T := tt_M) (N := 37) hx hb hts hin0 ft_M ft_M_ok nn_M hown hK hP hD hS 0 kg_9_0 rfl 23 (by decide) lk8 (fun _ h9 => h9) rfl (by decide +kernel) rfl rfl (Nat.le_of_ble_eq_true rfl) dd_M_weigh_405 (fun H locs hP hD hS => ?_)
                            have hP : va_P D vwCl [(o, .inr (0, [.int (nI th), .int (nI cn), .ref a0, .ref a1, .ref a2, .ref a3, .ref a4, .ref a5, .int (nI mn), .ref a6, .ref a7, .int (nI ps), .int (nI bk), .ref a8, .ref a9, .ref a10, .ref a11, .ref a12, .ref a13, .ref a14, .ref a15, .int (nI kf), .int (nI 10000), .int (nI 3), .long ((-ex) - le), .int (nI el), .int (nI ec), .long eo, .int eb, .long ed, .int (nI mp), .int (nI ml), .long md, .long mo, .int mb, .ref a16, .ref a17])), (a0, .inl (cI, 4097, .inl kd)), (a2, .inl (cI, 4097, .inl sr)), (a3, .inl (cI, 4097, .inl od)), (a4, .inl (cI, 4097, .inl sk)), (a6, .inl (cI, 258, .inl me)), (a7, .inl (cI, 8, .inl si)), (a14, .inl (cJ, 6, .inr (.inl su))), (a15, .inl (cJ, 6, .inr (.inl ke)))] H := kx_cP kz_9_0 hP
                            have hD : va_D A [(o, .inr (0, [.int (nI th), .int (nI cn), .ref a0, .ref a1, .ref a2, .ref a3, .ref a4, .ref a5, .int (nI mn), .ref a6, .ref a7, .int (nI ps), .int (nI bk), .ref a8, .ref a9, .ref a10, .ref a11, .ref a12, .ref a13, .ref a14, .ref a15, .int (nI kf), .int (nI 10000), .int (nI 3), .long ((-ex) - le), .int (nI el), .int (nI ec), .long eo, .int eb, .long ed, .int (nI mp), .int (nI ml), .long md, .long mo, .int mb, .ref a16, .ref a17])), (a0, .inl (cI, 4097, .inl kd)), (a2, .inl (cI, 4097, .inl sr)), (a3, .inl (cI, 4097, .inl od)), (a4, .inl (cI, 4097, .inl sk)), (a6, .inl (cI, 258, .inl me)), (a7, .inl (cI, 8, .inl si)), (a14, .inl (cJ, 6, .inr (.inl su))), (a15, .inl (cJ, 6, .inr (.inl ke)))] := kx_cD kz_9_0 hD
                            refine lv_goto (tgt := 441) hx hb dd_M_weigh_408 (by decide) ?_
                            have hX : ex = pm_ex su si (if pm_hy kd cn b then (sr b).toInt64 else 0) 0 (me (pm_mi n mn)) := by rw [e_ex, e_w3, e_w2, e_w1, e_v27, e_v66, e_v90]; rfl
                            have hPl : pl_2 = pm_pl su si := by rw [e_pl_2, e_pl, e_v140, e_v269, e_v269_2]; rfl
                            have hFa : fa_2 = pm_fa su si := by rw [e_fa_2, e_fa, e_v190, e_v300, e_v300_2]; first | rfl | (unfold pm_fa pm_S; split <;> rfl)
                            have hLe : le = pm_le su si := by rw [e_le, e_v212]; rfl
                            rw [hQ]
                            exact kx_vret hx hb hr hlocks hK hN hS dd_M_weigh_441 (nI 10000, 3, (-ex) - le) hP hD (by rw [← hX, ← hPl, ← hFa, ← hLe]; first | (rw [e_v340]; simp only [pm_lb, pm_lc, pm_lo, c318, c383, if_true, if_false, and_self]; done) | (rw [e_lb4]; simp only [pm_lb, pm_lc, pm_lo, c318, c383, if_true, if_false, and_self]; done) | (simp only [pm_lb, pm_lc, pm_lo, c318, c383, if_true, if_false, and_self]; done))
                        · skip
                          have c318 : ¬ (ex < (0 : Int64)) := fun h => c318 ((lg_cmp_lt _ _).mpr h)
                          refine lv_aload_n hx hb dd_M_weigh_321 rfl (lv_at hl 7 rfl) ?_
                          refine lv_lload hx hb dd_M_weigh_322 (lv_at hl 1 rfl) ?_
                          refine lv_lconst (v := 0) hx hb dd_M_weigh_324 (by decide) ?_
                          refine W.lcmp hx hb dd_M_weigh_325 ?_
                          refine kx_joini (D := D) (cl := vwCl) (A := A) (ws := [(o, .inr (0, [.int (nI th), .int (nI cn), .ref a0, .ref a1, .ref a2, .ref a3, .ref a4, .ref a5, .int (nI mn), .ref a6, .ref a7, .int (nI ps), .int (nI bk), .ref a8, .ref a9, .ref a10, .ref a11, .ref a12, .ref a13, .ref a14, .ref a15, .int (nI kf), .int lb, .int (nI lc), .long (0 : Int64), .int (nI el), .int (nI ec), .long eo, .int eb, .long ed, .int (nI mp), .int (nI ml), .long md, .long mo, .int mb, .ref a16, .ref a17])), (a0, .inl (cI, 4097, .inl kd)), (a2, .inl (cI, 4097, .inl sr)), (a3, .inl (cI, 4097, .inl od)), (a4, .inl (cI, 4097, .inl sk)), (a6, .inl (cI, 258, .inl me)), (a7, .inl (cI, 8, .inl si)), (a14, .inl (cJ, 6, .inr (.inl su))), (a15, .inl (cJ, 6, .inr (.inl ke)))]) (Y := 340) (ls1 := ls) (st1 := [.ref o]) (if fa_2 ≤ (0 : Int64) then (pm_bad ex pl_2) else (nI 0)) (fun v340 H locs e_v340 hP hD hS => ?_) (fun K340 => ?_)
                          · skip
                            refine va_put (D := D) (ci := 0) (v := .int v340) (ty := .int) (C := rr_M) (T := tt_M) (N := 37) hx hb hts hin0 ft_M ft_M_ok nn_M hown hK hP hD hS 0 kg_9_0 rfl 22 (by decide) lk7 (fun _ h9 => h9) rfl (by decide +kernel) rfl rfl (Nat.le_of_ble_eq_true rfl) dd_M_weigh_340 (fun H locs hP hD hS => ?_)
                            have hP : va_P D vwCl [(o, .inr (0, [.int (nI th), .int (nI cn), .ref a0, .ref a1, .ref a2, .ref a3, .ref a4, .ref a5, .int (nI mn), .ref a6, .ref a7, .int (nI ps), .int (nI bk), .ref a8, .ref a9, .ref a10, .ref a11, .ref a12, .ref a13, .ref a14, .ref a15, .int (nI kf), .int v340, .int (nI lc), .long (0 : Int64), .int (nI el), .int (nI ec), .long eo, .int eb, .long ed, .int (nI mp), .int (nI ml), .long md, .long mo, .int mb, .ref a16, .ref a17])), (a0, .inl (cI, 4097, .inl kd)), (a2, .inl (cI, 4097, .inl sr)), (a3, .inl (cI, 4097, .inl od)), (a4, .inl (cI, 4097, .inl sk)), (a6, .inl (cI, 258, .inl me)), (a7, .inl (cI, 8, .inl si)), (a14, .inl (cJ, 6, .inr (.inl su))), (a15, .inl (cJ, 6, .inr (.inl ke)))] H := kx_cP kz_9_0 hP
                            have hD : va_D A [(o, .inr (0, [.int (nI th), .int (nI cn), .ref a0, .ref a1, .ref a2, .ref a3, .ref a4, .ref a5, .int (nI mn), .ref a6, .ref a7, .int (nI ps), .int (nI bk), .ref a8, .ref a9, .ref a10, .ref a11, .ref a12, .ref a13, .ref a14, .ref a15, .int (nI kf), .int v340, .int (nI lc), .long (0 : Int64), .int (nI el), .int (nI ec), .long eo, .int eb, .long ed, .int (nI mp), .int (nI ml), .long md, .long mo, .int mb, .ref a16, .ref a17])), (a0, .inl (cI, 4097, .inl kd)), (a2, .inl (cI, 4097, .inl sr)), (a3, .inl (cI, 4097, .inl od)), (a4, .inl (cI, 4097, .inl sk)), (a6, .inl (cI, 258, .inl me)), (a7, .inl (cI, 8, .inl si)), (a14, .inl (cJ, 6, .inr (.inl su))), (a15, .inl (cJ, 6, .inr (.inl ke)))] := kx_cD kz_9_0 hD
                            refine lv_aload_n hx hb dd_M_weigh_343 rfl (lv_at hl 7 rfl) ?_
                            refine lv_aload_n hx hb dd_M_weigh_344 rfl (lv_at hl 7 rfl) ?_
                            refine va_get (D := D) (ci := 0) (v := .int v340) (C := rr_M) (T := tt_M) (N := 37) hx hb hts hin0 hown hK hP 0 kg_9_0 rfl 22 (by decide) lk7 (fun _ h9 => h9) rfl dd_M_weigh_345 ?_
                            refine lv_bipush (v := nI 99) hx hb dd_M_weigh_348 (by decide) ?_
                            refine kx_joini (D := D) (cl := vwCl) (A := A) (ws := [(o, .inr (0, [.int (nI th), .int (nI cn), .ref a0, .ref a1, .ref a2, .ref a3, .ref a4, .ref a5, .int (nI mn), .ref a6, .ref a7, .int (nI ps), .int (nI bk), .ref a8, .ref a9, .ref a10, .ref a11, .ref a12, .ref a13, .ref a14, .ref a15, .int (nI kf), .int v340, .int (nI lc), .long (0 : Int64), .int (nI el), .int (nI ec), .long eo, .int eb, .long ed, .int (nI mp), .int (nI ml), .long md, .long mo, .int mb, .ref a16, .ref a17])), (a0, .inl (cI, 4097, .inl kd)), (a2, .inl (cI, 4097, .inl sr)), (a3, .inl (cI, 4097, .inl od)), (a4, .inl (cI, 4097, .inl sk)), (a6, .inl (cI, 258, .inl me)), (a7, .inl (cI, 8, .inl si)), (a14, .inl (cJ, 6, .inr (.inl su))), (a15, .inl (cJ, 6, .inr (.inl ke)))]) (Y := 371) (ls1 := ls) (st1 := [.ref o]) (if v340 ≤ (nI 99) then (if v340 ≤ (nI 12) then (nI 2) else (nI 1)) else (nI 0)) (fun v371 H locs e_v371 hP hD hS => ?_) (fun K371 => ?_)
                            · skip
                              obtain rfl : v371 = nI (pm_c1 v340) := by rw [e_v371]; unfold pm_c1; split <;> (try split) <;> rfl
                              refine va_put (D := D) (ci := 0) (v := .int (nI (pm_c1 v340))) (ty := .int) (C := rr_M) (T := tt_M) (N := 37) hx hb hts hin0 ft_M ft_M_ok nn_M hown hK hP hD hS 0 kg_9_0 rfl 23 (by decide) lk8 (fun _ h9 => h9) rfl (by decide +kernel) rfl rfl (Nat.le_of_ble_eq_true rfl) dd_M_weigh_371 (fun H locs hP hD hS => ?_)
                              have hP : va_P D vwCl [(o, .inr (0, [.int (nI th), .int (nI cn), .ref a0, .ref a1, .ref a2, .ref a3, .ref a4, .ref a5, .int (nI mn), .ref a6, .ref a7, .int (nI ps), .int (nI bk), .ref a8, .ref a9, .ref a10, .ref a11, .ref a12, .ref a13, .ref a14, .ref a15, .int (nI kf), .int v340, .int (nI (pm_c1 v340)), .long (0 : Int64), .int (nI el), .int (nI ec), .long eo, .int eb, .long ed, .int (nI mp), .int (nI ml), .long md, .long mo, .int mb, .ref a16, .ref a17])), (a0, .inl (cI, 4097, .inl kd)), (a2, .inl (cI, 4097, .inl sr)), (a3, .inl (cI, 4097, .inl od)), (a4, .inl (cI, 4097, .inl sk)), (a6, .inl (cI, 258, .inl me)), (a7, .inl (cI, 8, .inl si)), (a14, .inl (cJ, 6, .inr (.inl su))), (a15, .inl (cJ, 6, .inr (.inl ke)))] H := kx_cP kz_9_0 hP
                              have hD : va_D A [(o, .inr (0, [.int (nI th), .int (nI cn), .ref a0, .ref a1, .ref a2, .ref a3, .ref a4, .ref a5, .int (nI mn), .ref a6, .ref a7, .int (nI ps), .int (nI bk), .ref a8, .ref a9, .ref a10, .ref a11, .ref a12, .ref a13, .ref a14, .ref a15, .int (nI kf), .int v340, .int (nI (pm_c1 v340)), .long (0 : Int64), .int (nI el), .int (nI ec), .long eo, .int eb, .long ed, .int (nI mp), .int (nI ml), .long md, .long mo, .int mb, .ref a16, .ref a17])), (a0, .inl (cI, 4097, .inl kd)), (a2, .inl (cI, 4097, .inl sr)), (a3, .inl (cI, 4097, .inl od)), (a4, .inl (cI, 4097, .inl sk)), (a6, .inl (cI, 258, .inl me)), (a7, .inl (cI, 8, .inl si)), (a14, .inl (cJ, 6, .inr (.inl su))), (a15, .inl (cJ, 6, .inr (.inl ke)))] := kx_cD kz_9_0 hD
                              refine lv_goto (tgt := 441) hx hb dd_M_weigh_374 (by decide) ?_
                              have hX : ex = pm_ex su si (if pm_hy kd cn b then (sr b).toInt64 else 0) 0 (me (pm_mi n mn)) := by rw [e_ex, e_w3, e_w2, e_w1, e_v27, e_v66, e_v90]; rfl
                              have hPl : pl_2 = pm_pl su si := by rw [e_pl_2, e_pl, e_v140, e_v269, e_v269_2]; rfl
                              have hFa : fa_2 = pm_fa su si := by rw [e_fa_2, e_fa, e_v190, e_v300, e_v300_2]; first | rfl | (unfold pm_fa pm_S; split <;> rfl)
                              have hLe : le = pm_le su si := by rw [e_le, e_v212]; rfl
                              rw [hQ]
                              exact kx_vret hx hb hr hlocks hK hN hS dd_M_weigh_441 (v340, pm_c1 v340, ((0 : Int64))) hP hD (by rw [← hX, ← hPl, ← hFa, ← hLe]; first | (rw [e_v340]; simp only [pm_lb, pm_lc, pm_lo, c318, if_true, if_false, and_self]; done) | (rw [e_lb4]; simp only [pm_lb, pm_lc, pm_lo, c318, if_true, if_false, and_self]; done) | (simp only [pm_lb, pm_lc, pm_lo, c318, if_true, if_false, and_self]; done))
                            · skip
                              refine lv_icmp_le (tgt := 357) hx hb dd_M_weigh_350 (by decide) (fun c350 => ?_) (fun c350 => ?_)
                              · skip
                                refine lv_aload_n hx hb dd_M_weigh_357 rfl (lv_at hl 7 rfl) ?_
                                refine va_get (D := D) (ci := 0) (v := .int v340) (C := rr_M) (T := tt_M) (N := 37) hx hb hts hin0 hown hK hP 0 kg_9_0 rfl 22 (by decide) lk7 (fun _ h9 => h9) rfl dd_M_weigh_358 ?_
                                refine lv_bipush (v := nI 12) hx hb dd_M_weigh_361 (by decide) ?_
                                refine lv_icmp_le (tgt := 370) hx hb dd_M_weigh_363 (by decide) (fun c363 => ?_) (fun c363 => ?_)
                                · skip
                                  refine lv_iconst (v := nI 2) hx hb dd_M_weigh_370 (by decide) ?_
                                  exact K371 _ H locs (by rw [if_pos c350, if_pos c363]) hP hD hS
                                · skip
                                  refine lv_iconst (v := nI 1) hx hb dd_M_weigh_366 (by decide) ?_
                                  refine lv_goto (tgt := 371) hx hb dd_M_weigh_367 (by decide) ?_
                                  exact K371 _ H locs (by rw [if_pos c350, if_neg c363]) hP hD hS
                              · skip
                                refine lv_iconst (v := nI 0) hx hb dd_M_weigh_353 (by decide) ?_
                                refine lv_goto (tgt := 371) hx hb dd_M_weigh_354 (by decide) ?_
                                exact K371 _ H locs (by rw [if_neg c350]) hP hD hS
                          · skip
                            refine lv_if_le (tgt := 333) hx hb dd_M_weigh_326 (by decide) (fun c326 => ?_) (fun c326 => ?_)
                            · skip
                              have c326 := (lg_cmp_le _ _).mp c326
                              refine lv_lload hx hb dd_M_weigh_333 (lv_at hl 4 rfl) ?_
                              refine lv_lload hx hb dd_M_weigh_335 (lv_at hl 2 rfl) ?_
                              refine kx_calli (wr := [(o, .inr (0, [.int (nI th), .int (nI cn), .ref a0, .ref a1, .ref a2, .ref a3, .ref a4, .ref a5, .int (nI mn), .ref a6, .ref a7, .int (nI ps), .int (nI bk), .ref a8, .ref a9, .ref a10, .ref a11, .ref a12, .ref a13, .ref a14, .ref a15, .int (nI kf), .int lb, .int (nI lc), .long (0 : Int64), .int (nI el), .int (nI ec), .long eo, .int eb, .long ed, .int (nI mp), .int (nI ml), .long md, .long mo, .int mb, .ref a16, .ref a17])), (a0, .inl (cI, 4097, .inl kd)), (a2, .inl (cI, 4097, .inl sr)), (a3, .inl (cI, 4097, .inl od)), (a4, .inl (cI, 4097, .inl sk)), (a6, .inl (cI, 258, .inl me)), (a7, .inl (cI, 8, .inl si)), (a14, .inl (cJ, 6, .inr (.inl su))), (a15, .inl (cJ, 6, .inr (.inl ke)))]) (va_runS (As := [.long ex, .long pl_2]) (rest := [.ref o]) ⟨hx, hb, hml, hown, hts⟩ (ct_M_badness l D cI cJ cZ H.size ex pl_2) ⟨(callB_of 2 hts (kx_good kw_1009) rfl rfl rfl (hts _ (kx_m kw_53)) (hts _ (kx_m kw_1007)) (by decide +kernel) ⟨Nat.le_of_ble_eq_true rfl, Nat.le_of_ble_eq_true rfl⟩), (hts _ (kx_m kw_1008))⟩ (kx_preS hK hN (hP.sub [] kt_9_) (hD.sub [] (by decide) ks_9_)) rfl rfl hl.1 rfl (lv_room (Nat.le_of_ble_eq_true rfl)) dd_M_weigh_337 ⟨Nat.le_of_ble_eq_true rfl, Nat.le_of_ble_eq_true rfl⟩) hP hD hS hA [] [0, 1, 2, 3, 4, 5, 6, 7, 8] ks_9_ ks_9_0_1_2_3_4_5_6_7_8 (by decide) (by decide) (fun r337 u337 H locs hw337 hP hD hS => ?_)
                              have hP : va_P D vwCl [(o, .inr (0, [.int (nI th), .int (nI cn), .ref a0, .ref a1, .ref a2, .ref a3, .ref a4, .ref a5, .int (nI mn), .ref a6, .ref a7, .int (nI ps), .int (nI bk), .ref a8, .ref a9, .ref a10, .ref a11, .ref a12, .ref a13, .ref a14, .ref a15, .int (nI kf), .int lb, .int (nI lc), .long (0 : Int64), .int (nI el), .int (nI ec), .long eo, .int eb, .long ed, .int (nI mp), .int (nI ml), .long md, .long mo, .int mb, .ref a16, .ref a17])), (a0, .inl (cI, 4097, .inl kd)), (a2, .inl (cI, 4097, .inl sr)), (a3, .inl (cI, 4097, .inl od)), (a4, .inl (cI, 4097, .inl sk)), (a6, .inl (cI, 258, .inl me)), (a7, .inl (cI, 8, .inl si)), (a14, .inl (cJ, 6, .inr (.inl su))), (a15, .inl (cJ, 6, .inr (.inl ke)))] H := hP
                              have hD : va_D A [(o, .inr (0, [.int (nI th), .int (nI cn), .ref a0, .ref a1, .ref a2, .ref a3, .ref a4, .ref a5, .int (nI mn), .ref a6, .ref a7, .int (nI ps), .int (nI bk), .ref a8, .ref a9, .ref a10, .ref a11, .ref a12, .ref a13, .ref a14, .ref a15, .int (nI kf), .int lb, .int (nI lc), .long (0 : Int64), .int (nI el), .int (nI ec), .long eo, .int eb, .long ed, .int (nI mp), .int (nI ml), .long md, .long mo, .int mb, .ref a16, .ref a17])), (a0, .inl (cI, 4097, .inl kd)), (a2, .inl (cI, 4097, .inl sr)), (a3, .inl (cI, 4097, .inl od)), (a4, .inl (cI, 4097, .inl sk)), (a6, .inl (cI, 258, .inl me)), (a7, .inl (cI, 8, .inl si)), (a14, .inl (cJ, 6, .inr (.inl su))), (a15, .inl (cJ, 6, .inr (.inl ke)))] := hD
                              have hw337 : r337 = pm_bad ex pl_2 := hw337
                              subst hw337
                              exact K340 _ H locs (by rw [if_pos c326]) hP hD hS
                            · skip
                              have c326 : ¬ (fa_2 ≤ (0 : Int64)) := fun h => c326 ((lg_cmp_le _ _).mpr h)
                              refine lv_iconst (v := nI 0) hx hb dd_M_weigh_329 (by decide) ?_
                              refine lv_goto (tgt := 340) hx hb dd_M_weigh_330 (by decide) ?_
                              exact K340 _ H locs (by rw [if_neg c326]) hP hD hS
                      · skip
                        refine lv_if_le (tgt := 299) hx hb dd_M_weigh_283 (by decide) (fun c283 => ?_) (fun c283 => ?_)
                        · skip
                          refine lv_lconst (v := 0) hx hb dd_M_weigh_299 (by decide) ?_
                          exact K300_2 _ H locs (by rw [if_pos c283]) hP hD hS
                        · skip
                          refine lv_aload_n hx hb dd_M_weigh_286 rfl (lv_at hl 7 rfl) ?_
                          refine va_get (D := D) (ci := 0) (v := .ref a7) (C := rr_M) (T := tt_M) (N := 37) hx hb hts hin0 hown hK hP 0 kg_9_0 rfl 10 (by decide) lk2 (fun _ h9 => h9) rfl dd_M_weigh_287 ?_
                          refine lv_iload hx hb dd_M_weigh_290 (lv_at hl 1 rfl) ?_
                          refine lv_iconst (v := nI 1) hx hb dd_M_weigh_292 (by decide) ?_
                          refine kx_iadd hx hb dd_M_weigh_293 ?_
                          refine kx_iald (q0 := 6) (t0 := 0) hx hb dd_M_weigh_294 hK hP kg_9_6 rfl (by omega) (by omega) ?_
                          refine lv_i2l hx hb dd_M_weigh_295 rfl ?_
                          refine lv_goto (tgt := 300) hx hb dd_M_weigh_296 (by decide) ?_
                          exact K300_2 _ H locs (by rw [if_neg c283]) hP hD hS
                    · skip
                      refine lv_if_ne (tgt := 268) hx hb dd_M_weigh_252 (by decide) (fun c252 => ?_) (fun c252 => ?_)
                      · skip
                        refine lv_lconst (v := 0) hx hb dd_M_weigh_268 (by decide) ?_
                        exact K269_2 _ H locs (by rw [if_neg c252]) hP hD hS
                      · skip
                        refine lv_aload_n hx hb dd_M_weigh_255 rfl (lv_at hl 7 rfl) ?_
                        refine va_get (D := D) (ci := 0) (v := .ref a7) (C := rr_M) (T := tt_M) (N := 37) hx hb hts hin0 hown hK hP 0 kg_9_0 rfl 10 (by decide) lk2 (fun _ h9 => h9) rfl dd_M_weigh_256 ?_
                        refine lv_iload hx hb dd_M_weigh_259 (lv_at hl 0 rfl) ?_
                        refine lv_iconst (v := nI 1) hx hb dd_M_weigh_261 (by decide) ?_
                        refine kx_iadd hx hb dd_M_weigh_262 ?_
                        refine kx_iald (q0 := 6) (t0 := 0) hx hb dd_M_weigh_263 hK hP kg_9_6 rfl (by omega) (by omega) ?_
                        refine lv_i2l hx hb dd_M_weigh_264 rfl ?_
                        refine lv_goto (tgt := 269) hx hb dd_M_weigh_265 (by decide) ?_
                        exact K269_2 _ H locs (by rw [if_pos c252]) hP hD hS
                  · skip
                    refine lv_if_le (tgt := 299) hx hb dd_M_weigh_283 (by decide) (fun c283 => ?_) (fun c283 => ?_)
                    · skip
                      refine lv_lconst (v := 0) hx hb dd_M_weigh_299 (by decide) ?_
                      exact K300 _ H locs (by rw [if_pos c283]) hP hD hS
                    · skip
                      refine lv_aload_n hx hb dd_M_weigh_286 rfl (lv_at hl 7 rfl) ?_
                      refine va_get (D := D) (ci := 0) (v := .ref a7) (C := rr_M) (T := tt_M) (N := 37) hx hb hts hin0 hown hK hP 0 kg_9_0 rfl 10 (by decide) lk2 (fun _ h9 => h9) rfl dd_M_weigh_287 ?_
                      refine lv_iload hx hb dd_M_weigh_290 (lv_at hl 1 rfl) ?_
                      refine lv_iconst (v := nI 1) hx hb dd_M_weigh_292 (by decide) ?_
                      refine kx_iadd hx hb dd_M_weigh_293 ?_
                      refine kx_iald (q0 := 6) (t0 := 0) hx hb dd_M_weigh_294 hK hP kg_9_6 rfl (by omega) (by omega) ?_
                      refine lv_i2l hx hb dd_M_weigh_295 rfl ?_
                      refine lv_goto (tgt := 300) hx hb dd_M_weigh_296 (by decide) ?_
                      exact K300 _ H locs (by rw [if_neg c283]) hP hD hS
                · skip
                  refine lv_if_ne (tgt := 268) hx hb dd_M_weigh_252 (by decide) (fun c252 => ?_) (fun c252 => ?_)
                  · skip
                    refine lv_lconst (v := 0) hx hb dd_M_weigh_268 (by decide) ?_
                    exact K269 _ H locs (by rw [if_neg c252]) hP hD hS
                  · skip
                    refine lv_aload_n hx hb dd_M_weigh_255 rfl (lv_at hl 7 rfl) ?_
                    refine va_get (D := D) (ci := 0) (v := .ref a7) (C := rr_M) (T := tt_M) (N := 37) hx hb hts hin0 hown hK hP 0 kg_9_0 rfl 10 (by decide) lk2 (fun _ h9 => h9) rfl dd_M_weigh_256 ?_
                    refine lv_iload hx hb dd_M_weigh_259 (lv_at hl 0 rfl) ?_
                    refine lv_iconst (v := nI 1) hx hb dd_M_weigh_261 (by decide) ?_
                    refine kx_iadd hx hb dd_M_weigh_262 ?_
                    refine kx_iald (q0 := 6) (t0 := 0) hx hb dd_M_weigh_263 hK hP kg_9_6 rfl (by omega) (by omega) ?_
                    refine lv_i2l hx hb dd_M_weigh_264 rfl ?_
                    refine lv_goto (tgt := 269) hx hb dd_M_weigh_265 (by decide) ?_
                    exact K269 _ H locs (by rw [if_pos c252]) hP hD hS
              · skip
                refine lv_if_eq (tgt := 206) hx hb dd_M_weigh_194 (by decide) (fun h => absurd h (by decide +kernel)) (fun _ => ?_)
                refine lv_aload_n hx hb dd_M_weigh_197 rfl (lv_at hl 5 rfl) ?_
                refine va_get (D := D) (ci := 0) (v := .ref a14) (C := rr_M) (T := tt_M) (N := 37) hx hb hts hin0 hown hK hP 0 kg_9_0 rfl 19 (by decide) lk0 (fun _ h9 => h9) rfl dd_M_weigh_198 ?_
                refine lv_iconst (v := nI 5) hx hb dd_M_weigh_201 (by decide) ?_
                refine kx_lald (q0 := 7) (t0 := 1) hx hb dd_M_weigh_202 hK hP kg_9_7 rfl (by omega) (by omega) ?_
                refine lv_goto (tgt := 212) hx hb dd_M_weigh_203 (by decide) ?_
                exact K212 _ H locs (rfl) hP hD hS
            · skip
              refine lv_if_eq (tgt := 170) hx hb dd_M_weigh_144 (by decide) (fun h => absurd h (by decide +kernel)) (fun _ => ?_)
              refine lv_aload_n hx hb dd_M_weigh_147 rfl (lv_at hl 4 rfl) ?_
              refine va_get (D := D) (ci := 0) (v := .ref a14) (C := rr_M) (T := tt_M) (N := 37) hx hb hts hin0 hown hK hP 0 kg_9_0 rfl 19 (by decide) lk0 (fun _ h9 => h9) rfl dd_M_weigh_148 ?_
              refine lv_iconst (v := nI 2) hx hb dd_M_weigh_151 (by decide) ?_
              refine kx_lald (q0 := 7) (t0 := 1) hx hb dd_M_weigh_152 hK hP kg_9_7 rfl (by omega) (by omega) ?_
              refine lv_aload_n hx hb dd_M_weigh_153 rfl (lv_at hl 4 rfl) ?_
              refine va_get (D := D) (ci := 0) (v := .ref a14) (C := rr_M) (T := tt_M) (N := 37) hx hb hts hin0 hown hK hP 0 kg_9_0 rfl 19 (by decide) lk0 (fun _ h9 => h9) rfl dd_M_weigh_154 ?_
              refine lv_iconst (v := nI 3) hx hb dd_M_weigh_157 (by decide) ?_
              refine kx_lald (q0 := 7) (t0 := 1) hx hb dd_M_weigh_158 hK hP kg_9_7 rfl (by omega) (by omega) ?_
              refine lv_ladd hx hb dd_M_weigh_159 ?_
              refine lv_aload_n hx hb dd_M_weigh_160 rfl (lv_at hl 4 rfl) ?_
              refine va_get (D := D) (ci := 0) (v := .ref a14) (C := rr_M) (T := tt_M) (N := 37) hx hb hts hin0 hown hK hP 0 kg_9_0 rfl 19 (by decide) lk0 (fun _ h9 => h9) rfl dd_M_weigh_161 ?_
              refine lv_iconst (v := nI 4) hx hb dd_M_weigh_164 (by decide) ?_
              refine kx_lald (q0 := 7) (t0 := 1) hx hb dd_M_weigh_165 hK hP kg_9_7 rfl (by omega) (by omega) ?_
              refine lv_ladd hx hb dd_M_weigh_166 ?_
              refine lv_goto (tgt := 190) hx hb dd_M_weigh_167 (by decide) ?_
              exact K190 _ H locs (rfl) hP hD hS
          · skip
            refine lv_if_eq (tgt := 134) hx hb dd_M_weigh_122 (by decide) (fun h => absurd h (by decide +kernel)) (fun _ => ?_)
            refine lv_aload_n hx hb dd_M_weigh_125 rfl (lv_at hl 3 rfl) ?_
            refine va_get (D := D) (ci := 0) (v := .ref a14) (C := rr_M) (T := tt_M) (N := 37) hx hb hts hin0 hown hK hP 0 kg_9_0 rfl 19 (by decide) lk0 (fun _ h9 => h9) rfl dd_M_weigh_126 ?_
            refine lv_iconst (v := nI 1) hx hb dd_M_weigh_129 (by decide) ?_
            refine kx_lald (q0 := 7) (t0 := 1) hx hb dd_M_weigh_130 hK hP kg_9_7 rfl (by omega) (by omega) ?_
            refine lv_goto (tgt := 140) hx hb dd_M_weigh_131 (by decide) ?_
            exact K140 _ H locs (rfl) hP hD hS
        · skip
          refine lv_icmp_ge (tgt := 109) hx hb dd_M_weigh_102 (by decide) (fun c102 => ?_) (fun c102 => ?_)
          · skip
            have c102 : mn ≤ n := (nI_leI (by omega) (by omega)).mp c102
            refine lv_aload_n hx hb dd_M_weigh_109 rfl (lv_at hl 2 rfl) ?_
            refine va_get (D := D) (ci := 0) (v := .int (nI mn)) (C := rr_M) (T := tt_M) (N := 37) hx hb hts hin0 hown hK hP 0 kg_9_0 rfl 8 (by decide) lk5 (fun _ h9 => h9) rfl dd_M_weigh_110 ?_
            exact K113 _ H locs (by rw [if_pos c102]) hP hD hS
          · skip
            have c102 : ¬ (mn ≤ n) := fun h => c102 ((nI_leI (by omega) (by omega)).mpr h)
            refine lv_iload_n hx hb dd_M_weigh_105 rfl (lv_at hl 5 rfl) ?_
            refine lv_goto (tgt := 113) hx hb dd_M_weigh_106 (by decide) ?_
            exact K113 _ H locs (by rw [if_neg c102]) hP hD hS
      · skip
        refine lv_if_eq (tgt := 89) hx hb dd_M_weigh_76 (by decide) (fun _ => ?_) (fun h => absurd (by decide +kernel) h)
        refine lv_lconst (v := 0) hx hb dd_M_weigh_89 (by decide) ?_
        exact K90 _ H locs (rfl) hP hD hS
    · skip
      refine lv_if_eq (tgt := 65) hx hb dd_M_weigh_52 (by decide) (fun c52 => ?_) (fun c52 => ?_)
      · skip
        have c52 : ¬ (b < cn ∧ kd b = nI 4) := kb_0.mp c52
        refine lv_lconst (v := 0) hx hb dd_M_weigh_65 (by decide) ?_
        exact K66 _ H locs (by rw [if_neg c52]) hP hD hS
      · skip
        have c52 : b < cn ∧ kd b = nI 4 := kb_1.mp c52
        refine lv_aload_n hx hb dd_M_weigh_55 rfl (lv_at hl 2 rfl) ?_
        refine va_get (D := D) (ci := 0) (v := .ref a2) (C := rr_M) (T := tt_M) (N := 37) hx hb hts hin0 hown hK hP 0 kg_9_0 rfl 4 (by decide) lk3 (fun _ h9 => h9) rfl dd_M_weigh_56 ?_
        refine lv_iload_n hx hb dd_M_weigh_59 rfl (lv_at hl 4 rfl) ?_
        refine kx_iald (q0 := 2) (t0 := 0) hx hb dd_M_weigh_60 hK hP kg_9_2 rfl (by omega) (by omega) ?_
        refine lv_i2l hx hb dd_M_weigh_61 rfl ?_
        refine lv_goto (tgt := 66) hx hb dd_M_weigh_62 (by decide) ?_
        exact K66 _ H locs (by rw [if_pos c52]) hP hD hS
  · skip
    refine lv_if_eq (tgt := 21) hx hb dd_M_weigh_9 (by decide) (fun h => absurd h (by decide +kernel)) (fun _ => ?_)
    refine lv_aload_n hx hb dd_M_weigh_12 rfl (lv_at hl 1 rfl) ?_
    refine va_get (D := D) (ci := 0) (v := .ref a14) (C := rr_M) (T := tt_M) (N := 37) hx hb hts hin0 hown hK hP 0 kg_9_0 rfl 19 (by decide) lk0 (fun _ h9 => h9) rfl dd_M_weigh_13 ?_
    refine lv_iconst (v := nI 0) hx hb dd_M_weigh_16 (by decide) ?_
    refine kx_lald (q0 := 7) (t0 := 1) hx hb dd_M_weigh_17 hK hP kg_9_7 rfl (by omega) (by omega) ?_
    refine lv_goto (tgt := 27) hx hb dd_M_weigh_18 (by decide) ?_
    exact K27 _ H locs (rfl) hP hD hS

theorem dd_M_cost_0 : decode bb_M_cost 0 = .ok (.aload_n 0, 1) := by decide +kernel
theorem dd_M_cost_1 : decode bb_M_cost 1 = .ok (.getfield 25, 3) := by decide +kernel
theorem dd_M_cost_4 : decode bb_M_cost 4 = .ok (.iconst 2, 1) := by decide +kernel
theorem dd_M_cost_5 : decode bb_M_cost 5 = .ok (.iaload, 1) := by decide +kernel
theorem dd_M_cost_6 : decode bb_M_cost 6 = .ok (.aload_n 0, 1) := by decide +kernel
theorem dd_M_cost_7 : decode bb_M_cost 7 = .ok (.getfield 126, 3) := by decide +kernel
theorem dd_M_cost_10 : decode bb_M_cost 10 = .ok (.iadd, 1) := by decide +kernel
theorem dd_M_cost_11 : decode bb_M_cost 11 = .ok (.istore 4, 2) := by decide +kernel
theorem dd_M_cost_13 : decode bb_M_cost 13 = .ok (.aload_n 0, 1) := by decide +kernel
theorem dd_M_cost_14 : decode bb_M_cost 14 = .ok (.iload_n 2, 1) := by decide +kernel
theorem dd_M_cost_15 : decode bb_M_cost 15 = .ok (.invokevirtual 132, 3) := by decide +kernel
theorem dd_M_cost_18 : decode bb_M_cost 18 = .ok (.istore 5, 2) := by decide +kernel
theorem dd_M_cost_20 : decode bb_M_cost 20 = .ok (.iload 4, 2) := by decide +kernel
theorem dd_M_cost_22 : decode bb_M_cost 22 = .ok (.sipush (10000), 3) := by decide +kernel
theorem dd_M_cost_25 : decode bb_M_cost 25 = .ok (.if_icmp .ge (11), 3) := by decide +kernel
theorem dd_M_cost_28 : decode bb_M_cost 28 = .ok (.iload 4, 2) := by decide +kernel
theorem dd_M_cost_30 : decode bb_M_cost 30 = .ok (.sipush (-10000), 3) := by decide +kernel
theorem dd_M_cost_33 : decode bb_M_cost 33 = .ok (.if_icmp .gt (9), 3) := by decide +kernel
theorem dd_M_cost_36 : decode bb_M_cost 36 = .ok (.ldc2_w 136, 3) := by decide +kernel
theorem dd_M_cost_39 : decode bb_M_cost 39 = .ok (.goto (10), 3) := by decide +kernel
theorem dd_M_cost_42 : decode bb_M_cost 42 = .ok (.iload 4, 2) := by decide +kernel
theorem dd_M_cost_44 : decode bb_M_cost 44 = .ok (.i2l, 1) := by decide +kernel
theorem dd_M_cost_45 : decode bb_M_cost 45 = .ok (.iload 4, 2) := by decide +kernel
theorem dd_M_cost_47 : decode bb_M_cost 47 = .ok (.i2l, 1) := by decide +kernel
theorem dd_M_cost_48 : decode bb_M_cost 48 = .ok (.lmul, 1) := by decide +kernel
theorem dd_M_cost_49 : decode bb_M_cost 49 = .ok (.lstore 6, 2) := by decide +kernel
theorem dd_M_cost_51 : decode bb_M_cost 51 = .ok (.lload 6, 2) := by decide +kernel
theorem dd_M_cost_53 : decode bb_M_cost 53 = .ok (.iload 5, 2) := by decide +kernel
theorem dd_M_cost_55 : decode bb_M_cost 55 = .ok (.ifCond .le (13), 3) := by decide +kernel
theorem dd_M_cost_58 : decode bb_M_cost 58 = .ok (.iload 5, 2) := by decide +kernel
theorem dd_M_cost_60 : decode bb_M_cost 60 = .ok (.i2l, 1) := by decide +kernel
theorem dd_M_cost_61 : decode bb_M_cost 61 = .ok (.iload 5, 2) := by decide +kernel
theorem dd_M_cost_63 : decode bb_M_cost 63 = .ok (.i2l, 1) := by decide +kernel
theorem dd_M_cost_64 : decode bb_M_cost 64 = .ok (.lmul, 1) := by decide +kernel
theorem dd_M_cost_65 : decode bb_M_cost 65 = .ok (.goto (23), 3) := by decide +kernel
theorem dd_M_cost_68 : decode bb_M_cost 68 = .ok (.iload 5, 2) := by decide +kernel
theorem dd_M_cost_70 : decode bb_M_cost 70 = .ok (.sipush (-10000), 3) := by decide +kernel
theorem dd_M_cost_73 : decode bb_M_cost 73 = .ok (.if_icmp .le (14), 3) := by decide +kernel
theorem dd_M_cost_76 : decode bb_M_cost 76 = .ok (.iload 5, 2) := by decide +kernel
theorem dd_M_cost_78 : decode bb_M_cost 78 = .ok (.i2l, 1) := by decide +kernel
theorem dd_M_cost_79 : decode bb_M_cost 79 = .ok (.lneg, 1) := by decide +kernel
theorem dd_M_cost_80 : decode bb_M_cost 80 = .ok (.iload 5, 2) := by decide +kernel
theorem dd_M_cost_82 : decode bb_M_cost 82 = .ok (.i2l, 1) := by decide +kernel
theorem dd_M_cost_83 : decode bb_M_cost 83 = .ok (.lmul, 1) := by decide +kernel
theorem dd_M_cost_84 : decode bb_M_cost 84 = .ok (.goto (4), 3) := by decide +kernel
theorem dd_M_cost_87 : decode bb_M_cost 87 = .ok (.lconst 0, 1) := by decide +kernel
theorem dd_M_cost_88 : decode bb_M_cost 88 = .ok (.ladd, 1) := by decide +kernel
theorem dd_M_cost_89 : decode bb_M_cost 89 = .ok (.lstore 6, 2) := by decide +kernel
theorem dd_M_cost_91 : decode bb_M_cost 91 = .ok (.lload 6, 2) := by decide +kernel
theorem dd_M_cost_93 : decode bb_M_cost 93 = .ok (.aload_n 0, 1) := by decide +kernel
theorem dd_M_cost_94 : decode bb_M_cost 94 = .ok (.iload_n 2, 1) := by decide +kernel
theorem dd_M_cost_95 : decode bb_M_cost 95 = .ok (.invokevirtual 115, 3) := by decide +kernel
theorem dd_M_cost_98 : decode bb_M_cost 98 = .ok (.ifCond .eq (22), 3) := by decide +kernel
theorem dd_M_cost_101 : decode bb_M_cost 101 = .ok (.aload_n 0, 1) := by decide +kernel
theorem dd_M_cost_102 : decode bb_M_cost 102 = .ok (.iload_n 1, 1) := by decide +kernel
theorem dd_M_cost_103 : decode bb_M_cost 103 = .ok (.invokevirtual 115, 3) := by decide +kernel
theorem dd_M_cost_106 : decode bb_M_cost 106 = .ok (.ifCond .eq (14), 3) := by decide +kernel
theorem dd_M_cost_109 : decode bb_M_cost 109 = .ok (.aload_n 0, 1) := by decide +kernel
theorem dd_M_cost_110 : decode bb_M_cost 110 = .ok (.getfield 25, 3) := by decide +kernel
theorem dd_M_cost_113 : decode bb_M_cost 113 = .ok (.bipush (6), 2) := by decide +kernel
theorem dd_M_cost_115 : decode bb_M_cost 115 = .ok (.iaload, 1) := by decide +kernel
theorem dd_M_cost_116 : decode bb_M_cost 116 = .ok (.i2l, 1) := by decide +kernel
theorem dd_M_cost_117 : decode bb_M_cost 117 = .ok (.goto (4), 3) := by decide +kernel
theorem dd_M_cost_120 : decode bb_M_cost 120 = .ok (.lconst 0, 1) := by decide +kernel
theorem dd_M_cost_121 : decode bb_M_cost 121 = .ok (.ladd, 1) := by decide +kernel
theorem dd_M_cost_122 : decode bb_M_cost 122 = .ok (.lstore 6, 2) := by decide +kernel
theorem dd_M_cost_124 : decode bb_M_cost 124 = .ok (.lload 6, 2) := by decide +kernel
theorem dd_M_cost_126 : decode bb_M_cost 126 = .ok (.iload_n 2, 1) := by decide +kernel
theorem dd_M_cost_127 : decode bb_M_cost 127 = .ok (.aload_n 0, 1) := by decide +kernel
theorem dd_M_cost_128 : decode bb_M_cost 128 = .ok (.getfield 85, 3) := by decide +kernel
theorem dd_M_cost_131 : decode bb_M_cost 131 = .ok (.if_icmp .ne (22), 3) := by decide +kernel
theorem dd_M_cost_134 : decode bb_M_cost 134 = .ok (.aload_n 0, 1) := by decide +kernel
theorem dd_M_cost_135 : decode bb_M_cost 135 = .ok (.iload_n 1, 1) := by decide +kernel
theorem dd_M_cost_136 : decode bb_M_cost 136 = .ok (.invokevirtual 115, 3) := by decide +kernel
theorem dd_M_cost_139 : decode bb_M_cost 139 = .ok (.ifCond .eq (14), 3) := by decide +kernel
theorem dd_M_cost_142 : decode bb_M_cost 142 = .ok (.aload_n 0, 1) := by decide +kernel
theorem dd_M_cost_143 : decode bb_M_cost 143 = .ok (.getfield 25, 3) := by decide +kernel
theorem dd_M_cost_146 : decode bb_M_cost 146 = .ok (.bipush (7), 2) := by decide +kernel
theorem dd_M_cost_148 : decode bb_M_cost 148 = .ok (.iaload, 1) := by decide +kernel
theorem dd_M_cost_149 : decode bb_M_cost 149 = .ok (.i2l, 1) := by decide +kernel
theorem dd_M_cost_150 : decode bb_M_cost 150 = .ok (.goto (4), 3) := by decide +kernel
theorem dd_M_cost_153 : decode bb_M_cost 153 = .ok (.lconst 0, 1) := by decide +kernel
theorem dd_M_cost_154 : decode bb_M_cost 154 = .ok (.ladd, 1) := by decide +kernel
theorem dd_M_cost_155 : decode bb_M_cost 155 = .ok (.lstore 6, 2) := by decide +kernel
theorem dd_M_cost_157 : decode bb_M_cost 157 = .ok (.aload_n 0, 1) := by decide +kernel
theorem dd_M_cost_158 : decode bb_M_cost 158 = .ok (.getfield 129, 3) := by decide +kernel
theorem dd_M_cost_161 : decode bb_M_cost 161 = .ok (.iload_n 3, 1) := by decide +kernel
theorem dd_M_cost_162 : decode bb_M_cost 162 = .ok (.isub, 1) := by decide +kernel
theorem dd_M_cost_163 : decode bb_M_cost 163 = .ok (.iconst 1, 1) := by decide +kernel
theorem dd_M_cost_164 : decode bb_M_cost 164 = .ok (.if_icmp .gt (13), 3) := by decide +kernel
theorem dd_M_cost_167 : decode bb_M_cost 167 = .ok (.iload_n 3, 1) := by decide +kernel
theorem dd_M_cost_168 : decode bb_M_cost 168 = .ok (.aload_n 0, 1) := by decide +kernel
theorem dd_M_cost_169 : decode bb_M_cost 169 = .ok (.getfield 129, 3) := by decide +kernel
theorem dd_M_cost_172 : decode bb_M_cost 172 = .ok (.isub, 1) := by decide +kernel
theorem dd_M_cost_173 : decode bb_M_cost 173 = .ok (.iconst 1, 1) := by decide +kernel
theorem dd_M_cost_174 : decode bb_M_cost 174 = .ok (.if_icmp .le (16), 3) := by decide +kernel
theorem dd_M_cost_177 : decode bb_M_cost 177 = .ok (.lload 6, 2) := by decide +kernel
theorem dd_M_cost_179 : decode bb_M_cost 179 = .ok (.aload_n 0, 1) := by decide +kernel
theorem dd_M_cost_180 : decode bb_M_cost 180 = .ok (.getfield 25, 3) := by decide +kernel
theorem dd_M_cost_183 : decode bb_M_cost 183 = .ok (.iconst 5, 1) := by decide +kernel
theorem dd_M_cost_184 : decode bb_M_cost 184 = .ok (.iaload, 1) := by decide +kernel
theorem dd_M_cost_185 : decode bb_M_cost 185 = .ok (.i2l, 1) := by decide +kernel
theorem dd_M_cost_186 : decode bb_M_cost 186 = .ok (.ladd, 1) := by decide +kernel
theorem dd_M_cost_187 : decode bb_M_cost 187 = .ok (.goto (5), 3) := by decide +kernel
theorem dd_M_cost_190 : decode bb_M_cost 190 = .ok (.lload 6, 2) := by decide +kernel
theorem dd_M_cost_192 : decode bb_M_cost 192 = .ok (.lreturn, 1) := by decide +kernel

set_option maxHeartbeats 4000000 in
set_option maxRecDepth 100000 in
theorem ct_M_cost (l : Launch) (D : va_G) (cI cJ cZ : ClassId) (sz : Nat) (o : Nat) (th : Nat) (cn : Nat) (a0 : Nat) (a1 : Nat) (a2 : Nat) (a3 : Nat) (a4 : Nat) (a5 : Nat) (mn : Nat) (a6 : Nat) (a7 : Nat) (ps : Nat) (bk : Nat) (a8 : Nat) (a9 : Nat) (a10 : Nat) (a11 : Nat) (a12 : Nat) (a13 : Nat) (a14 : Nat) (a15 : Nat) (kf : Nat) (lb : Int32) (lc : Nat) (lo : Int64) (el : Nat) (ec : Nat) (eo : Int64) (eb : Int32) (ed : Int64) (mp : Nat) (ml : Nat) (md : Int64) (mo : Int64) (mb : Int32) (a16 : Nat) (a17 : Nat) (kd : Nat → Int32) (wd : Nat → Int32) (od : Nat → Int32) (ru : Nat → Int32) (fr : Nat) (b : Nat) (was : Nat) (hf : fr < 4097) (hb : b ≤ cn) (hc : cn ≤ 4096) : kx_Ml l yy_M_cost ww_M_cost ({ frames := 1, cells := 0, slots := 0, locals := 21 }) D vwCl (kx_ty cI cJ cZ) [.ref o, .int (nI fr), .int (nI b), .int (nI was)] [(o, .inr (0, [.int (nI th), .int (nI cn), .ref a0, .ref a1, .ref a2, .ref a3, .ref a4, .ref a5, .int (nI mn), .ref a6, .ref a7, .int (nI ps), .int (nI bk), .ref a8, .ref a9, .ref a10, .ref a11, .ref a12, .ref a13, .ref a14, .ref a15, .int (nI kf), .int lb, .int (nI lc), .long lo, .int (nI el), .int (nI ec), .long eo, .int eb, .long ed, .int (nI mp), .int (nI ml), .long md, .long mo, .int mb, .ref a16, .ref a17])), (a0, .inl (cI, 4097, .inl kd)), (a1, .inl (cI, 4097, .inl wd)), (a3, .inl (cI, 4097, .inl od)), (a5, .inl (cI, 9, .inl ru))] sz (fun (r : Int64) (u : Unit) => r = pm_cost ru lb (pm_pen kd wd od ru cn b) lc was (pm_hy kd cn b) (pm_hy kd cn fr) (b = cn)) (fun (u : Unit) => [(o, .inr (0, [.int (nI th), .int (nI cn), .ref a0, .ref a1, .ref a2, .ref a3, .ref a4, .ref a5, .int (nI mn), .ref a6, .ref a7, .int (nI ps), .int (nI bk), .ref a8, .ref a9, .ref a10, .ref a11, .ref a12, .ref a13, .ref a14, .ref a15, .int (nI kf), .int lb, .int (nI lc), .long lo, .int (nI el), .int (nI ec), .long eo, .int eb, .long ed, .int (nI mp), .int (nI ml), .long md, .long mo, .int mb, .ref a16, .ref a17])), (a0, .inl (cI, 4097, .inl kd)), (a1, .inl (cI, 4097, .inl wd)), (a3, .inl (cI, 4097, .inl od)), (a5, .inl (cI, 9, .inl ru))]) 0 0 := by
  refine kx_startl (by decide) rfl (Nat.le_of_ble_eq_true rfl) ?_
  intro p e s m below meth c A ls hx hb hr hml hts hown hlocks hin hP hK hN hD hA hS hl
  have hl : lv_has ls 8 [(0, .ref o), (1, .int (nI fr)), (2, .int (nI b)), (3, .int (nI was))] := hl
  have hown : s.vm.findClass rr_M = some m.cls := hown
  have lk0 := hts _ (kx_m kw_805)
  have hin0 : ∀ w ∈ u_ws rr_M tt_M 37, w ∈ ww_M_cost := fun w h => kx_m (kf_M w h)
  have lk2 := hts _ (kx_m kw_820)
  have lk3 := hts _ (kx_m kw_1030)
  have lk4 := hts _ (kx_m kw_799)
  have lk5 := hts _ (kx_m kw_821)
  obtain ⟨H, hH⟩ : ∃ H, H = s.heap := ⟨_, rfl⟩
  obtain ⟨locs, hlocs⟩ : ∃ z : List Loc, z = [] := ⟨_, rfl⟩
  have hP : va_P D vwCl [(o, .inr (0, [.int (nI th), .int (nI cn), .ref a0, .ref a1, .ref a2, .ref a3, .ref a4, .ref a5, .int (nI mn), .ref a6, .ref a7, .int (nI ps), .int (nI bk), .ref a8, .ref a9, .ref a10, .ref a11, .ref a12, .ref a13, .ref a14, .ref a15, .int (nI kf), .int lb, .int (nI lc), .long lo, .int (nI el), .int (nI ec), .long eo, .int eb, .long ed, .int (nI mp), .int (nI ml), .long md, .long mo, .int mb, .ref a16, .ref a17])), (a0, .inl (cI, 4097, .inl kd)), (a1, .inl (cI, 4097, .inl wd)), (a3, .inl (cI, 4097, .inl od)), (a5, .inl (cI, 9, .inl ru))] H := by rw [hH]; exact hP
  have hS : va_S A s.heap H locs := by rw [hH, hlocs]; exact hS
  refine kx_gen hH hlocs ?_
  clear hH hlocs
  refine kx_nameQ (fun Q hQ => ?_)
  refine lv_aload_n hx hb dd_M_cost_0 rfl (lv_at hl 0 rfl) ?_
  refine va_get (D := D) (ci := 0) (v := .ref a5) (C := rr_M) (T := tt_M) (N := 37) hx hb hts hin0 hown hK hP 0 kg_5_0 rfl 7 (by decide) lk0 (fun _ h9 => h9) rfl dd_M_cost_1 ?_
  refine lv_iconst (v := nI 2) hx hb dd_M_cost_4 (by decide) ?_
  refine kx_iald (q0 := 4) (t0 := 0) hx hb dd_M_cost_5 hK hP kg_5_4 rfl (by omega) (by omega) ?_
  refine lv_aload_n hx hb dd_M_cost_6 rfl (lv_at hl 0 rfl) ?_
  refine va_get (D := D) (ci := 0) (v := .int lb) (C := rr_M) (T := tt_M) (N := 37) hx hb hts hin0 hown hK hP 0 kg_5_0 rfl 22 (by decide) lk2 (fun _ h9 => h9) rfl dd_M_cost_7 ?_
  refine lv_iadd hx hb dd_M_cost_10 ?_
  refine lv_topi (fun sm e_sm => ?_)
  refine lv_istore (lv' := [(4, .int sm), (0, .ref o), (1, .int (nI fr)), (2, .int (nI b)), (3, .int (nI was))]) hx hb dd_M_cost_11 hl (by decide) rfl (fun ls hl => ?_)
  refine lv_aload_n hx hb dd_M_cost_13 rfl (lv_at hl 1 rfl) ?_
  refine lv_iload_n hx hb dd_M_cost_14 rfl (lv_at hl 3 rfl) ?_
  refine kx_calli (wr := []) (va_runV (C := rr_M) (As := [.int (nI b)]) (rest := []) ⟨hx, hb, hml, hown, hts⟩ (ct_M_penaltyOf l D cI cJ cZ H.size o th cn a0 a1 a2 a3 a4 a5 mn a6 a7 ps bk a8 a9 a10 a11 a12 a13 a14 a15 kf lb lc lo el ec eo eb ed mp ml md mo mb a16 a17 kd wd od ru b (by omega) (by omega)) ⟨(callB_of 1 hts (kx_good kw_1029) rfl rfl rfl (hts _ (kx_m kw_53)) (hts _ (kx_m kw_1026)) (by decide +kernel) ⟨Nat.le_of_ble_eq_true rfl, Nat.le_of_ble_eq_true rfl⟩), (hts _ (kx_m kw_1028)), (hts _ (kx_m kw_37))⟩ (kx_preV (ci := 0) (q0 := 0) hK hN (hP.sub [0, 1, 2, 3, 4] kt_5_0_1_2_3_4) (hD.sub [0, 1, 2, 3, 4] (by decide) ks_5_0_1_2_3_4) rfl kg_5_0) rfl rfl hl.1 rfl (lv_room (Nat.le_of_ble_eq_true rfl)) dd_M_cost_15 ⟨Nat.le_of_ble_eq_true rfl, Nat.le_of_ble_eq_true rfl⟩) hP hD hS hA [0, 1, 2, 3, 4] [] ks_5_0_1_2_3_4 ks_5_ (by decide) (by decide) (fun r15 u15 H locs hw15 hP hD hS => ?_)
  have hP : va_P D vwCl [(o, .inr (0, [.int (nI th), .int (nI cn), .ref a0, .ref a1, .ref a2, .ref a3, .ref a4, .ref a5, .int (nI mn), .ref a6, .ref a7, .int (nI ps), .int (nI bk), .ref a8, .ref a9, .ref a10, .ref a11, .ref a12, .ref a13, .ref a14, .ref a15, .int (nI kf), .int lb, .int (nI lc), .long lo, .int (nI el), .int (nI ec), .long eo, .int eb, .long ed, .int (nI mp), .int (nI ml), .long md, .long mo, .int mb, .ref a16, .ref a17])), (a0, .inl (cI, 4097, .inl kd)), (a1, .inl (cI, 4097, .inl wd)), (a3, .inl (cI, 4097, .inl od)), (a5, .inl (cI, 9, .inl ru))] H := hP
  have hD : va_D A [(o, .inr (0, [.int (nI th), .int (nI cn), .ref a0, .ref a1, .ref a2, .ref a3, .ref a4, .ref a5, .int (nI mn), .ref a6, .ref a7, .int (nI ps), .int (nI bk), .ref a8, .ref a9, .ref a10, .ref a11, .ref a12, .ref a13, .ref a14, .ref a15, .int (nI kf), .int lb, .int (nI lc), .long lo, .int (nI el), .int (nI ec), .long eo, .int eb, .long ed, .int (nI mp), .int (nI ml), .long md, .long mo, .int mb, .ref a16, .ref a17])), (a0, .inl (cI, 4097, .inl kd)), (a1, .inl (cI, 4097, .inl wd)), (a3, .inl (cI, 4097, .inl od)), (a5, .inl (cI, 9, .inl ru))] := hD
  have hw15 : r15 = pm_pen kd wd od ru cn b := hw15
  subst hw15
  refine lv_topi (fun pp e_pp => ?_)
  refine lv_istore (lv' := [(5, .int pp), (4, .int sm), (0, .ref o), (1, .int (nI fr)), (2, .int (nI b)), (3, .int (nI was))]) hx hb dd_M_cost_18 hl (by decide) rfl (fun ls hl => ?_)
  refine lv_iload hx hb dd_M_cost_20 (lv_at hl 1 rfl) ?_
  refine lv_sipush (v := nI 10000) hx hb dd_M_cost_22 (by decide) ?_
  refine kx_joinl (D := D) (cl := vwCl) (A := A) (ws := [(o, .inr (0, [.int (nI th), .int (nI cn), .ref a0, .ref a1, .ref a2, .ref a3, .ref a4, .ref a5, .int (nI mn), .ref a6, .ref a7, .int (nI ps), .int (nI bk), .ref a8, .ref a9, .ref a10, .ref a11, .ref a12, .ref a13, .ref a14, .ref a15, .int (nI kf), .int lb, .int (nI lc), .long lo, .int (nI el), .int (nI ec), .long eo, .int eb, .long ed, .int (nI mp), .int (nI ml), .long md, .long mo, .int mb, .ref a16, .ref a17])), (a0, .inl (cI, 4097, .inl kd)), (a1, .inl (cI, 4097, .inl wd)), (a3, .inl (cI, 4097, .inl od)), (a5, .inl (cI, 9, .inl ru))]) (Y := 49) (ls1 := ls) (st1 := []) (if (nI 10000) ≤ sm then (100000000 : Int64) else (if (-10000) < sm then (sm.toInt64 * sm.toInt64) else (100000000 : Int64))) (fun v49 H locs e_v49 hP hD hS => ?_) (fun K49 => ?_)
  · skip
    refine lv_lstore (lv' := [(6, .long v49), (5, .int pp), (4, .int sm), (0, .ref o), (1, .int (nI fr)), (2, .int (nI b)), (3, .int (nI was))]) hx hb dd_M_cost_49 hl (by decide) rfl (fun ls hl => ?_)
    refine lv_lload hx hb dd_M_cost_51 (lv_at hl 0 rfl) ?_
    refine lv_iload hx hb dd_M_cost_53 (lv_at hl 1 rfl) ?_
    refine kx_joinl (D := D) (cl := vwCl) (A := A) (ws := [(o, .inr (0, [.int (nI th), .int (nI cn), .ref a0, .ref a1, .ref a2, .ref a3, .ref a4, .ref a5, .int (nI mn), .ref a6, .ref a7, .int (nI ps), .int (nI bk), .ref a8, .ref a9, .ref a10, .ref a11, .ref a12, .ref a13, .ref a14, .ref a15, .int (nI kf), .int lb, .int (nI lc), .long lo, .int (nI el), .int (nI ec), .long eo, .int eb, .long ed, .int (nI mp), .int (nI ml), .long md, .long mo, .int mb, .ref a16, .ref a17])), (a0, .inl (cI, 4097, .inl kd)), (a1, .inl (cI, 4097, .inl wd)), (a3, .inl (cI, 4097, .inl od)), (a5, .inl (cI, 9, .inl ru))]) (Y := 88) (ls1 := ls) (st1 := [.long v49]) (if pp ≤ 0 then (if pp ≤ (-10000) then (0 : Int64) else ((-pp.toInt64) * pp.toInt64)) else (pp.toInt64 * pp.toInt64)) (fun v88 H locs e_v88 hP hD hS => ?_) (fun K88 => ?_)
    · skip
      refine lv_ladd hx hb dd_M_cost_88 ?_
      refine lv_topl (fun d1 e_d1 => ?_)
      refine lv_lstore (lv' := [(6, .long d1), (5, .int pp), (4, .int sm), (0, .ref o), (1, .int (nI fr)), (2, .int (nI b)), (3, .int (nI was))]) hx hb dd_M_cost_89 hl (by decide) rfl (fun ls hl => ?_)
      refine lv_lload hx hb dd_M_cost_91 (lv_at hl 0 rfl) ?_
      refine lv_aload_n hx hb dd_M_cost_93 rfl (lv_at hl 3 rfl) ?_
      refine lv_iload_n hx hb dd_M_cost_94 rfl (lv_at hl 5 rfl) ?_
      refine kx_calli (wr := [(a1, .inl (cI, 4097, .inl wd)), (a3, .inl (cI, 4097, .inl od)), (a5, .inl (cI, 9, .inl ru))]) (va_runV (C := rr_M) (As := [.int (nI b)]) (rest := [.long d1]) ⟨hx, hb, hml, hown, hts⟩ (ct_M_isHyphenated l D cI cJ cZ H.size o th cn a0 a1 a2 a3 a4 a5 mn a6 a7 ps bk a8 a9 a10 a11 a12 a13 a14 a15 kf lb lc lo el ec eo eb ed mp ml md mo mb a16 a17 kd b (by omega) (by omega)) ⟨(callB_of 1 hts (kx_good kw_1006) rfl rfl rfl (hts _ (kx_m kw_53)) (hts _ (kx_m kw_1003)) (by decide +kernel) ⟨Nat.le_of_ble_eq_true rfl, Nat.le_of_ble_eq_true rfl⟩), (hts _ (kx_m kw_1005)), (hts _ (kx_m kw_33))⟩ (kx_preV (ci := 0) (q0 := 0) hK hN (hP.sub [0, 1] kt_5_0_1) (hD.sub [0, 1] (by decide) ks_5_0_1) rfl kg_2_0) rfl rfl hl.1 rfl (lv_room (Nat.le_of_ble_eq_true rfl)) dd_M_cost_95 ⟨Nat.le_of_ble_eq_true rfl, Nat.le_of_ble_eq_true rfl⟩) hP hD hS hA [0, 1] [2, 3, 4] ks_5_0_1 ks_5_2_3_4 (by decide) (by decide) (fun r95 u95 H locs hw95 hP hD hS => ?_)
      have hP : va_P D vwCl [(a1, .inl (cI, 4097, .inl wd)), (a3, .inl (cI, 4097, .inl od)), (a5, .inl (cI, 9, .inl ru)), (o, .inr (0, [.int (nI th), .int (nI cn), .ref a0, .ref a1, .ref a2, .ref a3, .ref a4, .ref a5, .int (nI mn), .ref a6, .ref a7, .int (nI ps), .int (nI bk), .ref a8, .ref a9, .ref a10, .ref a11, .ref a12, .ref a13, .ref a14, .ref a15, .int (nI kf), .int lb, .int (nI lc), .long lo, .int (nI el), .int (nI ec), .long eo, .int eb, .long ed, .int (nI mp), .int (nI ml), .long md, .long mo, .int mb, .ref a16, .ref a17])), (a0, .inl (cI, 4097, .inl kd))] H := hP
      have hD : va_D A [(a1, .inl (cI, 4097, .inl wd)), (a3, .inl (cI, 4097, .inl od)), (a5, .inl (cI, 9, .inl ru)), (o, .inr (0, [.int (nI th), .int (nI cn), .ref a0, .ref a1, .ref a2, .ref a3, .ref a4, .ref a5, .int (nI mn), .ref a6, .ref a7, .int (nI ps), .int (nI bk), .ref a8, .ref a9, .ref a10, .ref a11, .ref a12, .ref a13, .ref a14, .ref a15, .int (nI kf), .int lb, .int (nI lc), .long lo, .int (nI el), .int (nI ec), .long eo, .int eb, .long ed, .int (nI mp), .int (nI ml), .long md, .long mo, .int mb, .ref a16, .ref a17])), (a0, .inl (cI, 4097, .inl kd))] := hD
      have hP : va_P D vwCl [(o, .inr (0, [.int (nI th), .int (nI cn), .ref a0, .ref a1, .ref a2, .ref a3, .ref a4, .ref a5, .int (nI mn), .ref a6, .ref a7, .int (nI ps), .int (nI bk), .ref a8, .ref a9, .ref a10, .ref a11, .ref a12, .ref a13, .ref a14, .ref a15, .int (nI kf), .int lb, .int (nI lc), .long lo, .int (nI el), .int (nI ec), .long eo, .int eb, .long ed, .int (nI mp), .int (nI ml), .long md, .long mo, .int mb, .ref a16, .ref a17])), (a0, .inl (cI, 4097, .inl kd)), (a1, .inl (cI, 4097, .inl wd)), (a3, .inl (cI, 4097, .inl od)), (a5, .inl (cI, 9, .inl ru))] H := hP.sub [3, 4, 0, 1, 2] kt_5_3_4_0_1_2
      have hD : va_D A [(o, .inr (0, [.int (nI th), .int (nI cn), .ref a0, .ref a1, .ref a2, .ref a3, .ref a4, .ref a5, .int (nI mn), .ref a6, .ref a7, .int (nI ps), .int (nI bk), .ref a8, .ref a9, .ref a10, .ref a11, .ref a12, .ref a13, .ref a14, .ref a15, .int (nI kf), .int lb, .int (nI lc), .long lo, .int (nI el), .int (nI ec), .long eo, .int eb, .long ed, .int (nI mp), .int (nI ml), .long md, .long mo, .int mb, .ref a16, .ref a17])), (a0, .inl (cI, 4097, .inl kd)), (a1, .inl (cI, 4097, .inl wd)), (a3, .inl (cI, 4097, .inl od)), (a5, .inl (cI, 9, .inl ru))] := hD.sub [3, 4, 0, 1, 2] (by decide) ks_5_3_4_0_1_2
      have hw95 : r95 = kb_p (b < cn ∧ kd b = nI 4) := hw95
      subst hw95
      refine kx_joinl (D := D) (cl := vwCl) (A := A) (ws := [(o, .inr (0, [.int (nI th), .int (nI cn), .ref a0, .ref a1, .ref a2, .ref a3, .ref a4, .ref a5, .int (nI mn), .ref a6, .ref a7, .int (nI ps), .int (nI bk), .ref a8, .ref a9, .ref a10, .ref a11, .ref a12, .ref a13, .ref a14, .ref a15, .int (nI kf), .int lb, .int (nI lc), .long lo, .int (nI el), .int (nI ec), .long eo, .int eb, .long ed, .int (nI mp), .int (nI ml), .long md, .long mo, .int mb, .ref a16, .ref a17])), (a0, .inl (cI, 4097, .inl kd)), (a1, .inl (cI, 4097, .inl wd)), (a3, .inl (cI, 4097, .inl od)), (a5, .inl (cI, 9, .inl ru))]) (Y := 121) (ls1 := ls) (st1 := [.long d1]) (if b < cn ∧ kd b = nI 4 then (if fr < cn ∧ kd fr = nI 4 then ((ru 6).toInt64) else (0 : Int64)) else (0 : Int64)) (fun v121 H locs e_v121 hP hD hS => ?_) (fun K121 => ?_)
      · skip
        refine lv_ladd hx hb dd_M_cost_121 ?_
        refine lv_topl (fun d2 e_d2 => ?_)
        refine lv_lstore (lv' := [(6, .long d2), (5, .int pp), (4, .int sm), (0, .ref o), (1, .int (nI fr)), (2, .int (nI b)), (3, .int (nI was))]) hx hb dd_M_cost_122 hl (by decide) rfl (fun ls hl => ?_)
        refine lv_lload hx hb dd_M_cost_124 (lv_at hl 0 rfl) ?_
        refine lv_iload_n hx hb dd_M_cost_126 rfl (lv_at hl 5 rfl) ?_
        refine lv_aload_n hx hb dd_M_cost_127 rfl (lv_at hl 3 rfl) ?_
        refine va_get (D := D) (ci := 0) (v := .int (nI cn)) (C := rr_M) (T := tt_M) (N := 37) hx hb hts hin0 hown hK hP 0 kg_5_0 rfl 1 (by decide) lk4 (fun _ h9 => h9) rfl dd_M_cost_128 ?_
        refine kx_joinl (D := D) (cl := vwCl) (A := A) (ws := [(o, .inr (0, [.int (nI th), .int (nI cn), .ref a0, .ref a1, .ref a2, .ref a3, .ref a4, .ref a5, .int (nI mn), .ref a6, .ref a7, .int (nI ps), .int (nI bk), .ref a8, .ref a9, .ref a10, .ref a11, .ref a12, .ref a13, .ref a14, .ref a15, .int (nI kf), .int lb, .int (nI lc), .long lo, .int (nI el), .int (nI ec), .long eo, .int eb, .long ed, .int (nI mp), .int (nI ml), .long md, .long mo, .int mb, .ref a16, .ref a17])), (a0, .inl (cI, 4097, .inl kd)), (a1, .inl (cI, 4097, .inl wd)), (a3, .inl (cI, 4097, .inl od)), (a5, .inl (cI, 9, .inl ru))]) (Y := 154) (ls1 := ls) (st1 := [.long d2]) (if b = cn then (if fr < cn ∧ kd fr = nI 4 then ((ru 7).toInt64) else (0 : Int64)) else (0 : Int64)) (fun v154 H locs e_v154 hP hD hS => ?_) (fun K154 => ?_)
        · skip
          refine lv_ladd hx hb dd_M_cost_154 ?_
          refine lv_topl (fun d3 e_d3 => ?_)
          refine lv_lstore (lv' := [(6, .long d3), (5, .int pp), (4, .int sm), (0, .ref o), (1, .int (nI fr)), (2, .int (nI b)), (3, .int (nI was))]) hx hb dd_M_cost_155 hl (by decide) rfl (fun ls hl => ?_)
          refine lv_aload_n hx hb dd_M_cost_157 rfl (lv_at hl 3 rfl) ?_
          refine va_get (D := D) (ci := 0) (v := .int (nI lc)) (C := rr_M) (T := tt_M) (N := 37) hx hb hts hin0 hown hK hP 0 kg_5_0 rfl 23 (by decide) lk5 (fun _ h9 => h9) rfl dd_M_cost_158 ?_
          refine lv_iload_n hx hb dd_M_cost_161 rfl (lv_at hl 6 rfl) ?_
          refine lv_isub hx hb dd_M_cost_162 ?_
          refine lv_iconst (v := nI 1) hx hb dd_M_cost_163 (by decide) ?_
          refine lv_icmp_gt (tgt := 177) hx hb dd_M_cost_164 (by decide) (fun c164 => ?_) (fun c164 => ?_)
          · skip
            refine lv_lload hx hb dd_M_cost_177 (lv_at hl 0 rfl) ?_
            refine lv_aload_n hx hb dd_M_cost_179 rfl (lv_at hl 3 rfl) ?_
            refine va_get (D := D) (ci := 0) (v := .ref a5) (C := rr_M) (T := tt_M) (N := 37) hx hb hts hin0 hown hK hP 0 kg_5_0 rfl 7 (by decide) lk0 (fun _ h9 => h9) rfl dd_M_cost_180 ?_
            refine lv_iconst (v := nI 5) hx hb dd_M_cost_183 (by decide) ?_
            refine kx_iald (q0 := 4) (t0 := 0) hx hb dd_M_cost_184 hK hP kg_5_4 rfl (by omega) (by omega) ?_
            refine lv_i2l hx hb dd_M_cost_185 rfl ?_
            refine lv_ladd hx hb dd_M_cost_186 ?_
            refine lv_goto (tgt := 192) hx hb dd_M_cost_187 (by decide) ?_
            have hd : d3 = pm_d0 (ru 2 + lb) + pm_d1 (pm_pen kd wd od ru cn b) + (if pm_hy kd cn b then (if (pm_hy kd cn fr) then (ru 6).toInt64 else 0) else 0) + (if b = cn then (if (pm_hy kd cn fr) then (ru 7).toInt64 else 0) else 0) := by rw [e_d3, e_d2, e_d1, e_v49, e_v88, e_v121, e_v154, e_pp, e_sm]; first | rfl | (simp only [if_false, ite_self]; rfl)
            rw [hQ]
            exact kx_lret hx hb hr hlocks hK hN hS dd_M_cost_192 () hP hD (by rw [hd]; unfold pm_cost; first | (rw [if_pos (show pm_adj lc was from Or.inl c164)]; done) | (rw [if_pos (show pm_adj lc was from Or.inr c174)]; done) | (rw [if_neg (show ¬ pm_adj lc was from fun q => q.elim c164 (fun z => z c174)), Int64.add_zero]; done))
          · skip
            refine lv_iload_n hx hb dd_M_cost_167 rfl (lv_at hl 6 rfl) ?_
            refine lv_aload_n hx hb dd_M_cost_168 rfl (lv_at hl 3 rfl) ?_
            refine va_get (D := D) (ci := 0) (v := .int (nI lc)) (C := rr_M) (T := tt_M) (N := 37) hx hb hts hin0 hown hK hP 0 kg_5_0 rfl 23 (by decide) lk5 (fun _ h9 => h9) rfl dd_M_cost_169 ?_
            refine lv_isub hx hb dd_M_cost_172 ?_
            refine lv_iconst (v := nI 1) hx hb dd_M_cost_173 (by decide) ?_
            refine lv_icmp_le (tgt := 190) hx hb dd_M_cost_174 (by decide) (fun c174 => ?_) (fun c174 => ?_)
            · skip
              refine lv_lload hx hb dd_M_cost_190 (lv_at hl 0 rfl) ?_
              have hd : d3 = pm_d0 (ru 2 + lb) + pm_d1 (pm_pen kd wd od ru cn b) + (if pm_hy kd cn b then (if (pm_hy kd cn fr) then (ru 6).toInt64 else 0) else 0) + (if b = cn then (if (pm_hy kd cn fr) then (ru 7).toInt64 else 0) else 0) := by rw [e_d3, e_d2, e_d1, e_v49, e_v88, e_v121, e_v154, e_pp, e_sm]; first | rfl | (simp only [if_false, ite_self]; rfl)
              rw [hQ]
              exact kx_lret hx hb hr hlocks hK hN hS dd_M_cost_192 () hP hD (by rw [hd]; unfold pm_cost; first | (rw [if_pos (show pm_adj lc was from Or.inl c164)]; done) | (rw [if_pos (show pm_adj lc was from Or.inr c174)]; done) | (rw [if_neg (show ¬ pm_adj lc was from fun q => q.elim c164 (fun z => z c174)), Int64.add_zero]; done))
            · skip
              refine lv_lload hx hb dd_M_cost_177 (lv_at hl 0 rfl) ?_
              refine lv_aload_n hx hb dd_M_cost_179 rfl (lv_at hl 3 rfl) ?_
              refine va_get (D := D) (ci := 0) (v := .ref a5) (C := rr_M) (T := tt_M) (N := 37) hx hb hts hin0 hown hK hP 0 kg_5_0 rfl 7 (by decide) lk0 (fun _ h9 => h9) rfl dd_M_cost_180 ?_
              refine lv_iconst (v := nI 5) hx hb dd_M_cost_183 (by decide) ?_
              refine kx_iald (q0 := 4) (t0 := 0) hx hb dd_M_cost_184 hK hP kg_5_4 rfl (by omega) (by omega) ?_
              refine lv_i2l hx hb dd_M_cost_185 rfl ?_
              refine lv_ladd hx hb dd_M_cost_186 ?_
              refine lv_goto (tgt := 192) hx hb dd_M_cost_187 (by decide) ?_
              have hd : d3 = pm_d0 (ru 2 + lb) + pm_d1 (pm_pen kd wd od ru cn b) + (if pm_hy kd cn b then (if (pm_hy kd cn fr) then (ru 6).toInt64 else 0) else 0) + (if b = cn then (if (pm_hy kd cn fr) then (ru 7).toInt64 else 0) else 0) := by rw [e_d3, e_d2, e_d1, e_v49, e_v88, e_v121, e_v154, e_pp, e_sm]; first | rfl | (simp only [if_false, ite_self]; rfl)
              rw [hQ]
              exact kx_lret hx hb hr hlocks hK hN hS dd_M_cost_192 () hP hD (by rw [hd]; unfold pm_cost; first | (rw [if_pos (show pm_adj lc was from Or.inl c164)]; done) | (rw [if_pos (show pm_adj lc was from Or.inr c174)]; done) | (rw [if_neg (show ¬ pm_adj lc was from fun q => q.elim c164 (fun z => z c174)), Int64.add_zero]; done))
        · skip
          refine lv_icmp_ne (tgt := 153) hx hb dd_M_cost_131 (by decide) (fun c131 => ?_) (fun c131 => ?_)
          · skip
            have c131 : ¬ (b = cn) := fun h => c131 ((nI_eq (by omega) (by omega)).mpr h)
            refine lv_lconst (v := 0) hx hb dd_M_cost_153 (by decide) ?_
            exact K154 _ H locs (by rw [if_neg c131]) hP hD hS
          · skip
            have c131 : b = cn := (nI_eq (by omega) (by omega)).mp c131
            refine lv_aload_n hx hb dd_M_cost_134 rfl (lv_at hl 3 rfl) ?_
            refine lv_iload_n hx hb dd_M_cost_135 rfl (lv_at hl 4 rfl) ?_
            refine kx_calli (wr := [(a1, .inl (cI, 4097, .inl wd)), (a3, .inl (cI, 4097, .inl od)), (a5, .inl (cI, 9, .inl ru))]) (va_runV (C := rr_M) (As := [.int (nI fr)]) (rest := [.long d2]) ⟨hx, hb, hml, hown, hts⟩ (ct_M_isHyphenated l D cI cJ cZ H.size o th cn a0 a1 a2 a3 a4 a5 mn a6 a7 ps bk a8 a9 a10 a11 a12 a13 a14 a15 kf lb lc lo el ec eo eb ed mp ml md mo mb a16 a17 kd fr (by omega) (by omega)) ⟨(callB_of 1 hts (kx_good kw_1006) rfl rfl rfl (hts _ (kx_m kw_53)) (hts _ (kx_m kw_1003)) (by decide +kernel) ⟨Nat.le_of_ble_eq_true rfl, Nat.le_of_ble_eq_true rfl⟩), (hts _ (kx_m kw_1005)), (hts _ (kx_m kw_33))⟩ (kx_preV (ci := 0) (q0 := 0) hK hN (hP.sub [0, 1] kt_5_0_1) (hD.sub [0, 1] (by decide) ks_5_0_1) rfl kg_2_0) rfl rfl hl.1 rfl (lv_room (Nat.le_of_ble_eq_true rfl)) dd_M_cost_136 ⟨Nat.le_of_ble_eq_true rfl, Nat.le_of_ble_eq_true rfl⟩) hP hD hS hA [0, 1] [2, 3, 4] ks_5_0_1 ks_5_2_3_4 (by decide) (by decide) (fun r136 u136 H locs hw136 hP hD hS => ?_)
            have hP : va_P D vwCl [(a1, .inl (cI, 4097, .inl wd)), (a3, .inl (cI, 4097, .inl od)), (a5, .inl (cI, 9, .inl ru)), (o, .inr (0, [.int (nI th), .int (nI cn), .ref a0, .ref a1, .ref a2, .ref a3, .ref a4, .ref a5, .int (nI mn), .ref a6, .ref a7, .int (nI ps), .int (nI bk), .ref a8, .ref a9, .ref a10, .ref a11, .ref a12, .ref a13, .ref a14, .ref a15, .int (nI kf), .int lb, .int (nI lc), .long lo, .int (nI el), .int (nI ec), .long eo, .int eb, .long ed, .int (nI mp), .int (nI ml), .long md, .long mo, .int mb, .ref a16, .ref a17])), (a0, .inl (cI, 4097, .inl kd))] H := hP
            have hD : va_D A [(a1, .inl (cI, 4097, .inl wd)), (a3, .inl (cI, 4097, .inl od)), (a5, .inl (cI, 9, .inl ru)), (o, .inr (0, [.int (nI th), .int (nI cn), .ref a0, .ref a1, .ref a2, .ref a3, .ref a4, .ref a5, .int (nI mn), .ref a6, .ref a7, .int (nI ps), .int (nI bk), .ref a8, .ref a9, .ref a10, .ref a11, .ref a12, .ref a13, .ref a14, .ref a15, .int (nI kf), .int lb, .int (nI lc), .long lo, .int (nI el), .int (nI ec), .long eo, .int eb, .long ed, .int (nI mp), .int (nI ml), .long md, .long mo, .int mb, .ref a16, .ref a17])), (a0, .inl (cI, 4097, .inl kd))] := hD
            have hP : va_P D vwCl [(o, .inr (0, [.int (nI th), .int (nI cn), .ref a0, .ref a1, .ref a2, .ref a3, .ref a4, .ref a5, .int (nI mn), .ref a6, .ref a7, .int (nI ps), .int (nI bk), .ref a8, .ref a9, .ref a10, .ref a11, .ref a12, .ref a13, .ref a14, .ref a15, .int (nI kf), .int lb, .int (nI lc), .long lo, .int (nI el), .int (nI ec), .long eo, .int eb, .long ed, .int (nI mp), .int (nI ml), .long md, .long mo, .int mb, .ref a16, .ref a17])), (a0, .inl (cI, 4097, .inl kd)), (a1, .inl (cI, 4097, .inl wd)), (a3, .inl (cI, 4097, .inl od)), (a5, .inl (cI, 9, .inl ru))] H := hP.sub [3, 4, 0, 1, 2] kt_5_3_4_0_1_2
            have hD : va_D A [(o, .inr (0, [.int (nI th), .int (nI cn), .ref a0, .ref a1, .ref a2, .ref a3, .ref a4, .ref a5, .int (nI mn), .ref a6, .ref a7, .int (nI ps), .int (nI bk), .ref a8, .ref a9, .ref a10, .ref a11, .ref a12, .ref a13, .ref a14, .ref a15, .int (nI kf), .int lb, .int (nI lc), .long lo, .int (nI el), .int (nI ec), .long eo, .int eb, .long ed, .int (nI mp), .int (nI ml), .long md, .long mo, .int mb, .ref a16, .ref a17])), (a0, .inl (cI, 4097, .inl kd)), (a1, .inl (cI, 4097, .inl wd)), (a3, .inl (cI, 4097, .inl od)), (a5, .inl (cI, 9, .inl ru))] := hD.sub [3, 4, 0, 1, 2] (by decide) ks_5_3_4_0_1_2
            have hw136 : r136 = kb_p (fr < cn ∧ kd fr = nI 4) := hw136
            subst hw136
            refine lv_if_eq (tgt := 153) hx hb dd_M_cost_139 (by decide) (fun c139 => ?_) (fun c139 => ?_)
            · skip
              have c139 : ¬ (fr < cn ∧ kd fr = nI 4) := kb_0.mp c139
              refine lv_lconst (v := 0) hx hb dd_M_cost_153 (by decide) ?_
              exact K154 _ H locs (by rw [if_pos c131, if_neg c139]) hP hD hS
            · skip
              have c139 : fr < cn ∧ kd fr = nI 4 := kb_1.mp c139
              refine lv_aload_n hx hb dd_M_cost_142 rfl (lv_at hl 3 rfl) ?_
              refine va_get (D := D) (ci := 0) (v := .ref a5) (C := rr_M) (T := tt_M) (N := 37) hx hb hts hin0 hown hK hP 0 kg_5_0 rfl 7 (by decide) lk0 (fun _ h9 => h9) rfl dd_M_cost_143 ?_
              refine lv_bipush (v := nI 7) hx hb dd_M_cost_146 (by decide) ?_
              refine kx_iald (q0 := 4) (t0 := 0) hx hb dd_M_cost_148 hK hP kg_5_4 rfl (by omega) (by omega) ?_
              refine lv_i2l hx hb dd_M_cost_149 rfl ?_
              refine lv_goto (tgt := 154) hx hb dd_M_cost_150 (by decide) ?_
              exact K154 _ H locs (by rw [if_pos c131, if_pos c139]) hP hD hS
      · skip
        refine lv_if_eq (tgt := 120) hx hb dd_M_cost_98 (by decide) (fun c98 => ?_) (fun c98 => ?_)
        · skip
          have c98 : ¬ (b < cn ∧ kd b = nI 4) := kb_0.mp c98
          refine lv_lconst (v := 0) hx hb dd_M_cost_120 (by decide) ?_
          exact K121 _ H locs (by rw [if_neg c98]) hP hD hS
        · skip
          have c98 : b < cn ∧ kd b = nI 4 := kb_1.mp c98
          refine lv_aload_n hx hb dd_M_cost_101 rfl (lv_at hl 3 rfl) ?_
          refine lv_iload_n hx hb dd_M_cost_102 rfl (lv_at hl 4 rfl) ?_
          refine kx_calli (wr := [(a1, .inl (cI, 4097, .inl wd)), (a3, .inl (cI, 4097, .inl od)), (a5, .inl (cI, 9, .inl ru))]) (va_runV (C := rr_M) (As := [.int (nI fr)]) (rest := [.long d1]) ⟨hx, hb, hml, hown, hts⟩ (ct_M_isHyphenated l D cI cJ cZ H.size o th cn a0 a1 a2 a3 a4 a5 mn a6 a7 ps bk a8 a9 a10 a11 a12 a13 a14 a15 kf lb lc lo el ec eo eb ed mp ml md mo mb a16 a17 kd fr (by omega) (by omega)) ⟨(callB_of 1 hts (kx_good kw_1006) rfl rfl rfl (hts _ (kx_m kw_53)) (hts _ (kx_m kw_1003)) (by decide +kernel) ⟨Nat.le_of_ble_eq_true rfl, Nat.le_of_ble_eq_true rfl⟩), (hts _ (kx_m kw_1005)), (hts _ (kx_m kw_33))⟩ (kx_preV (ci := 0) (q0 := 0) hK hN (hP.sub [0, 1] kt_5_0_1) (hD.sub [0, 1] (by decide) ks_5_0_1) rfl kg_2_0) rfl rfl hl.1 rfl (lv_room (Nat.le_of_ble_eq_true rfl)) dd_M_cost_103 ⟨Nat.le_of_ble_eq_true rfl, Nat.le_of_ble_eq_true rfl⟩) hP hD hS hA [0, 1] [2, 3, 4] ks_5_0_1 ks_5_2_3_4 (by decide) (by decide) (fun r103 u103 H locs hw103 hP hD hS => ?_)
          have hP : va_P D vwCl [(a1, .inl (cI, 4097, .inl wd)), (a3, .inl (cI, 4097, .inl od)), (a5, .inl (cI, 9, .inl ru)), (o, .inr (0, [.int (nI th), .int (nI cn), .ref a0, .ref a1, .ref a2, .ref a3, .ref a4, .ref a5, .int (nI mn), .ref a6, .ref a7, .int (nI ps), .int (nI bk), .ref a8, .ref a9, .ref a10, .ref a11, .ref a12, .ref a13, .ref a14, .ref a15, .int (nI kf), .int lb, .int (nI lc), .long lo, .int (nI el), .int (nI ec), .long eo, .int eb, .long ed, .int (nI mp), .int (nI ml), .long md, .long mo, .int mb, .ref a16, .ref a17])), (a0, .inl (cI, 4097, .inl kd))] H := hP
          have hD : va_D A [(a1, .inl (cI, 4097, .inl wd)), (a3, .inl (cI, 4097, .inl od)), (a5, .inl (cI, 9, .inl ru)), (o, .inr (0, [.int (nI th), .int (nI cn), .ref a0, .ref a1, .ref a2, .ref a3, .ref a4, .ref a5, .int (nI mn), .ref a6, .ref a7, .int (nI ps), .int (nI bk), .ref a8, .ref a9, .ref a10, .ref a11, .ref a12, .ref a13, .ref a14, .ref a15, .int (nI kf), .int lb, .int (nI lc), .long lo, .int (nI el), .int (nI ec), .long eo, .int eb, .long ed, .int (nI mp), .int (nI ml), .long md, .long mo, .int mb, .ref a16, .ref a17])), (a0, .inl (cI, 4097, .inl kd))] := hD
          have hP : va_P D vwCl [(o, .inr (0, [.int (nI th), .int (nI cn), .ref a0, .ref a1, .ref a2, .ref a3, .ref a4, .ref a5, .int (nI mn), .ref a6, .ref a7, .int (nI ps), .int (nI bk), .ref a8, .ref a9, .ref a10, .ref a11, .ref a12, .ref a13, .ref a14, .ref a15, .int (nI kf), .int lb, .int (nI lc), .long lo, .int (nI el), .int (nI ec), .long eo, .int eb, .long ed, .int (nI mp), .int (nI ml), .long md, .long mo, .int mb, .ref a16, .ref a17])), (a0, .inl (cI, 4097, .inl kd)), (a1, .inl (cI, 4097, .inl wd)), (a3, .inl (cI, 4097, .inl od)), (a5, .inl (cI, 9, .inl ru))] H := hP.sub [3, 4, 0, 1, 2] kt_5_3_4_0_1_2
          have hD : va_D A [(o, .inr (0, [.int (nI th), .int (nI cn), .ref a0, .ref a1, .ref a2, .ref a3, .ref a4, .ref a5, .int (nI mn), .ref a6, .ref a7, .int (nI ps), .int (nI bk), .ref a8, .ref a9, .ref a10, .ref a11, .ref a12, .ref a13, .ref a14, .ref a15, .int (nI kf), .int lb, .int (nI lc), .long lo, .int (nI el), .int (nI ec), .long eo, .int eb, .long ed, .int (nI mp), .int (nI ml), .long md, .long mo, .int mb, .ref a16, .ref a17])), (a0, .inl (cI, 4097, .inl kd)), (a1, .inl (cI, 4097, .inl wd)), (a3, .inl (cI, 4097, .inl od)), (a5, .inl (cI, 9, .inl ru))] := hD.sub [3, 4, 0, 1, 2] (by decide) ks_5_3_4_0_1_2
          have hw103 : r103 = kb_p (fr < cn ∧ kd fr = nI 4) := hw103
          subst hw103
          refine lv_if_eq (tgt := 120) hx hb dd_M_cost_106 (by decide) (fun c106 => ?_) (fun c106 => ?_)
          · skip
            have c106 : ¬ (fr < cn ∧ kd fr = nI 4) := kb_0.mp c106
            refine lv_lconst (v := 0) hx hb dd_M_cost_120 (by decide) ?_
            exact K121 _ H locs (by rw [if_pos c98, if_neg c106]) hP hD hS
          · skip
            have c106 : fr < cn ∧ kd fr = nI 4 := kb_1.mp c106
            refine lv_aload_n hx hb dd_M_cost_109 rfl (lv_at hl 3 rfl) ?_
            refine va_get (D := D) (ci := 0) (v := .ref a5) (C := rr_M) (T := tt_M) (N := 37) hx hb hts hin0 hown hK hP 0 kg_5_0 rfl 7 (by decide) lk0 (fun _ h9 => h9) rfl dd_M_cost_110 ?_
            refine lv_bipush (v := nI 6) hx hb dd_M_cost_113 (by decide) ?_
            refine kx_iald (q0 := 4) (t0 := 0) hx hb dd_M_cost_115 hK hP kg_5_4 rfl (by omega) (by omega) ?_
            refine lv_i2l hx hb dd_M_cost_116 rfl ?_
            refine lv_goto (tgt := 121) hx hb dd_M_cost_117 (by decide) ?_
            exact K121 _ H locs (by rw [if_pos c98, if_pos c106]) hP hD hS
    · skip
      refine lv_if_le (tgt := 68) hx hb dd_M_cost_55 (by decide) (fun c55 => ?_) (fun c55 => ?_)
      · skip
        refine lv_iload hx hb dd_M_cost_68 (lv_at hl 1 rfl) ?_
        refine lv_sipush (v := (-10000)) hx hb dd_M_cost_70 (by decide) ?_
        refine lv_icmp_le (tgt := 87) hx hb dd_M_cost_73 (by decide) (fun c73 => ?_) (fun c73 => ?_)
        · skip
          refine lv_lconst (v := 0) hx hb dd_M_cost_87 (by decide) ?_
          exact K88 _ H locs (by rw [if_pos c55, if_pos c73]) hP hD hS
        · skip
          refine lv_iload hx hb dd_M_cost_76 (lv_at hl 1 rfl) ?_
          refine lv_i2l hx hb dd_M_cost_78 rfl ?_
          refine lv_lneg hx hb dd_M_cost_79 ?_
          refine lv_iload hx hb dd_M_cost_80 (lv_at hl 1 rfl) ?_
          refine lv_i2l hx hb dd_M_cost_82 rfl ?_
          refine lv_lmul hx hb dd_M_cost_83 ?_
          refine lv_goto (tgt := 88) hx hb dd_M_cost_84 (by decide) ?_
          exact K88 _ H locs (by rw [if_pos c55, if_neg c73]) hP hD hS
      · skip
        refine lv_iload hx hb dd_M_cost_58 (lv_at hl 1 rfl) ?_
        refine lv_i2l hx hb dd_M_cost_60 rfl ?_
        refine lv_iload hx hb dd_M_cost_61 (lv_at hl 1 rfl) ?_
        refine lv_i2l hx hb dd_M_cost_63 rfl ?_
        refine lv_lmul hx hb dd_M_cost_64 ?_
        refine lv_goto (tgt := 88) hx hb dd_M_cost_65 (by decide) ?_
        exact K88 _ H locs (by rw [if_neg c55]) hP hD hS
  · skip
    refine lv_icmp_ge (tgt := 36) hx hb dd_M_cost_25 (by decide) (fun c25 => ?_) (fun c25 => ?_)
    · skip
      refine lv_ldc2 (v := (100000000)) hx hb hown lk3 dd_M_cost_36 ?_
      refine lv_goto (tgt := 49) hx hb dd_M_cost_39 (by decide) ?_
      exact K49 _ H locs (by rw [if_pos c25]) hP hD hS
    · skip
      refine lv_iload hx hb dd_M_cost_28 (lv_at hl 1 rfl) ?_
      refine lv_sipush (v := (-10000)) hx hb dd_M_cost_30 (by decide) ?_
      refine lv_icmp_gt (tgt := 42) hx hb dd_M_cost_33 (by decide) (fun c33 => ?_) (fun c33 => ?_)
      · skip
        refine lv_iload hx hb dd_M_cost_42 (lv_at hl 1 rfl) ?_
        refine lv_i2l hx hb dd_M_cost_44 rfl ?_
        refine lv_iload hx hb dd_M_cost_45 (lv_at hl 1 rfl) ?_
        refine lv_i2l hx hb dd_M_cost_47 rfl ?_
        refine lv_lmul hx hb dd_M_cost_48 ?_
        exact K49 _ H locs (by rw [if_neg c25, if_pos c33]) hP hD hS
      · skip
        refine lv_ldc2 (v := (100000000)) hx hb hown lk3 dd_M_cost_36 ?_
        refine lv_goto (tgt := 49) hx hb dd_M_cost_39 (by decide) ?_
        exact K49 _ H locs (by rw [if_neg c25, if_neg c33]) hP hD hS


set_option maxHeartbeats 4000000 in
set_option maxRecDepth 100000 in
theorem ct_M_cost_n (l : Launch) (D : va_G) (cI cJ cZ : ClassId) (sz : Nat) (o : Nat) (th : Nat) (cn : Nat) (a0 : Nat) (a1 : Nat) (a2 : Nat) (a3 : Nat) (a4 : Nat) (a5 : Nat) (mn : Nat) (a6 : Nat) (a7 : Nat) (ps : Nat) (bk : Nat) (a8 : Nat) (a9 : Nat) (a10 : Nat) (a11 : Nat) (a12 : Nat) (a13 : Nat) (a14 : Nat) (a15 : Nat) (kf : Nat) (lb : Int32) (lc : Nat) (lo : Int64) (el : Nat) (ec : Nat) (eo : Int64) (eb : Int32) (ed : Int64) (mp : Nat) (ml : Nat) (md : Int64) (mo : Int64) (mb : Int32) (a16 : Nat) (a17 : Nat) (kd : Nat → Int32) (wd : Nat → Int32) (od : Nat → Int32) (ru : Nat → Int32) (b : Nat) (was : Nat) (hb : b ≤ cn) (hc : cn ≤ 4096) : kx_Ml l yy_M_cost ww_M_cost ({ frames := 1, cells := 0, slots := 0, locals := 21 }) D vwCl (kx_ty cI cJ cZ) [.ref o, .int (-1), .int (nI b), .int (nI was)] [(o, .inr (0, [.int (nI th), .int (nI cn), .ref a0, .ref a1, .ref a2, .ref a3, .ref a4, .ref a5, .int (nI mn), .ref a6, .ref a7, .int (nI ps), .int (nI bk), .ref a8, .ref a9, .ref a10, .ref a11, .ref a12, .ref a13, .ref a14, .ref a15, .int (nI kf), .int lb, .int (nI lc), .long lo, .int (nI el), .int (nI ec), .long eo, .int eb, .long ed, .int (nI mp), .int (nI ml), .long md, .long mo, .int mb, .ref a16, .ref a17])), (a0, .inl (cI, 4097, .inl kd)), (a1, .inl (cI, 4097, .inl wd)), (a3, .inl (cI, 4097, .inl od)), (a5, .inl (cI, 9, .inl ru))] sz (fun (r : Int64) (u : Unit) => r = pm_cost ru lb (pm_pen kd wd od ru cn b) lc was (pm_hy kd cn b) False (b = cn)) (fun (u : Unit) => [(o, .inr (0, [.int (nI th), .int (nI cn), .ref a0, .ref a1, .ref a2, .ref a3, .ref a4, .ref a5, .int (nI mn), .ref a6, .ref a7, .int (nI ps), .int (nI bk), .ref a8, .ref a9, .ref a10, .ref a11, .ref a12, .ref a13, .ref a14, .ref a15, .int (nI kf), .int lb, .int (nI lc), .long lo, .int (nI el), .int (nI ec), .long eo, .int eb, .long ed, .int (nI mp), .int (nI ml), .long md, .long mo, .int mb, .ref a16, .ref a17])), (a0, .inl (cI, 4097, .inl kd)), (a1, .inl (cI, 4097, .inl wd)), (a3, .inl (cI, 4097, .inl od)), (a5, .inl (cI, 9, .inl ru))]) 0 0 := by
  refine kx_startl (by decide) rfl (Nat.le_of_ble_eq_true rfl) ?_
  intro p e s m below meth c A ls hx hb hr hml hts hown hlocks hin hP hK hN hD hA hS hl
  have hl : lv_has ls 8 [(0, .ref o), (1, .int (-1)), (2, .int (nI b)), (3, .int (nI was))] := hl
  have hown : s.vm.findClass rr_M = some m.cls := hown
  have lk0 := hts _ (kx_m kw_805)
  have hin0 : ∀ w ∈ u_ws rr_M tt_M 37, w ∈ ww_M_cost := fun w h => kx_m (kf_M w h)
  have lk2 := hts _ (kx_m kw_820)
  have lk3 := hts _ (kx_m kw_1030)
  have lk4 := hts _ (kx_m kw_799)
  have lk5 := hts _ (kx_m kw_821)
  obtain ⟨H, hH⟩ : ∃ H, H = s.heap := ⟨_, rfl⟩
  obtain ⟨locs, hlocs⟩ : ∃ z : List Loc, z = [] := ⟨_, rfl⟩
  have hP : va_P D vwCl [(o, .inr (0, [.int (nI th), .int (nI cn), .ref a0, .ref a1, .ref a2, .ref a3, .ref a4, .ref a5, .int (nI mn), .ref a6, .ref a7, .int (nI ps), .int (nI bk), .ref a8, .ref a9, .ref a10, .ref a11, .ref a12, .ref a13, .ref a14, .ref a15, .int (nI kf), .int lb, .int (nI lc), .long lo, .int (nI el), .int (nI ec), .long eo, .int eb, .long ed, .int (nI mp), .int (nI ml), .long md, .long mo, .int mb, .ref a16, .ref a17])), (a0, .inl (cI, 4097, .inl kd)), (a1, .inl (cI, 4097, .inl wd)), (a3, .inl (cI, 4097, .inl od)), (a5, .inl (cI, 9, .inl ru))] H := by rw [hH]; exact hP
  have hS : va_S A s.heap H locs := by rw [hH, hlocs]; exact hS
  refine kx_gen hH hlocs ?_
  clear hH hlocs
  refine kx_nameQ (fun Q hQ => ?_)
  refine lv_aload_n hx hb dd_M_cost_0 rfl (lv_at hl 0 rfl) ?_
  refine va_get (D := D) (ci := 0) (v := .ref a5) (C := rr_M) (T := tt_M) (N := 37) hx hb hts hin0 hown hK hP 0 kg_5_0 rfl 7 (by decide) lk0 (fun _ h9 => h9) rfl dd_M_cost_1 ?_
  refine lv_iconst (v := nI 2) hx hb dd_M_cost_4 (by decide) ?_
  refine kx_iald (q0 := 4) (t0 := 0) hx hb dd_M_cost_5 hK hP kg_5_4 rfl (by omega) (by omega) ?_
  refine lv_aload_n hx hb dd_M_cost_6 rfl (lv_at hl 0 rfl) ?_
  refine va_get (D := D) (ci := 0) (v := .int lb) (C := rr_M) (T := tt_M) (N := 37) hx hb hts hin0 hown hK hP 0 kg_5_0 rfl 22 (by decide) lk2 (fun _ h9 => h9) rfl dd_M_cost_7 ?_
  refine lv_iadd hx hb dd_M_cost_10 ?_
  refine lv_topi (fun sm e_sm => ?_)
  refine lv_istore (lv' := [(4, .int sm), (0, .ref o), (1, .int (-1)), (2, .int (nI b)), (3, .int (nI was))]) hx hb dd_M_cost_11 hl (by decide) rfl (fun ls hl => ?_)
  refine lv_aload_n hx hb dd_M_cost_13 rfl (lv_at hl 1 rfl) ?_
  refine lv_iload_n hx hb dd_M_cost_14 rfl (lv_at hl 3 rfl) ?_
  refine kx_calli (wr := []) (va_runV (C := rr_M) (As := [.int (nI b)]) (rest := []) ⟨hx, hb, hml, hown, hts⟩ (ct_M_penaltyOf l D cI cJ cZ H.size o th cn a0 a1 a2 a3 a4 a5 mn a6 a7 ps bk a8 a9 a10 a11 a12 a13 a14 a15 kf lb lc lo el ec eo eb ed mp ml md mo mb a16 a17 kd wd od ru b (by omega) (by omega)) ⟨(callB_of 1 hts (kx_good kw_1029) rfl rfl rfl (hts _ (kx_m kw_53)) (hts _ (kx_m kw_1026)) (by decide +kernel) ⟨Nat.le_of_ble_eq_true rfl, Nat.le_of_ble_eq_true rfl⟩), (hts _ (kx_m kw_1028)), (hts _ (kx_m kw_37))⟩ (kx_preV (ci := 0) (q0 := 0) hK hN (hP.sub [0, 1, 2, 3, 4] kt_5_0_1_2_3_4) (hD.sub [0, 1, 2, 3, 4] (by decide) ks_5_0_1_2_3_4) rfl kg_5_0) rfl rfl hl.1 rfl (lv_room (Nat.le_of_ble_eq_true rfl)) dd_M_cost_15 ⟨Nat.le_of_ble_eq_true rfl, Nat.le_of_ble_eq_true rfl⟩) hP hD hS hA [0, 1, 2, 3, 4] [] ks_5_0_1_2_3_4 ks_5_ (by decide) (by decide) (fun r15 u15 H locs hw15 hP hD hS => ?_)
  have hP : va_P D vwCl [(o, .inr (0, [.int (nI th), .int (nI cn), .ref a0, .ref a1, .ref a2, .ref a3, .ref a4, .ref a5, .int (nI mn), .ref a6, .ref a7, .int (nI ps), .int (nI bk), .ref a8, .ref a9, .ref a10, .ref a11, .ref a12, .ref a13, .ref a14, .ref a15, .int (nI kf), .int lb, .int (nI lc), .long lo, .int (nI el), .int (nI ec), .long eo, .int eb, .long ed, .int (nI mp), .int (nI ml), .long md, .long mo, .int mb, .ref a16, .ref a17])), (a0, .inl (cI, 4097, .inl kd)), (a1, .inl (cI, 4097, .inl wd)), (a3, .inl (cI, 4097, .inl od)), (a5, .inl (cI, 9, .inl ru))] H := hP
  have hD : va_D A [(o, .inr (0, [.int (nI th), .int (nI cn), .ref a0, .ref a1, .ref a2, .ref a3, .ref a4, .ref a5, .int (nI mn), .ref a6, .ref a7, .int (nI ps), .int (nI bk), .ref a8, .ref a9, .ref a10, .ref a11, .ref a12, .ref a13, .ref a14, .ref a15, .int (nI kf), .int lb, .int (nI lc), .long lo, .int (nI el), .int (nI ec), .long eo, .int eb, .long ed, .int (nI mp), .int (nI ml), .long md, .long mo, .int mb, .ref a16, .ref a17])), (a0, .inl (cI, 4097, .inl kd)), (a1, .inl (cI, 4097, .inl wd)), (a3, .inl (cI, 4097, .inl od)), (a5, .inl (cI, 9, .inl ru))] := hD
  have hw15 : r15 = pm_pen kd wd od ru cn b := hw15
  subst hw15
  refine lv_topi (fun pp e_pp => ?_)
  refine lv_istore (lv' := [(5, .int pp), (4, .int sm), (0, .ref o), (1, .int (-1)), (2, .int (nI b)), (3, .int (nI was))]) hx hb dd_M_cost_18 hl (by decide) rfl (fun ls hl => ?_)
  refine lv_iload hx hb dd_M_cost_20 (lv_at hl 1 rfl) ?_
  refine lv_sipush (v := nI 10000) hx hb dd_M_cost_22 (by decide) ?_
  refine kx_joinl (D := D) (cl := vwCl) (A := A) (ws := [(o, .inr (0, [.int (nI th), .int (nI cn), .ref a0, .ref a1, .ref a2, .ref a3, .ref a4, .ref a5, .int (nI mn), .ref a6, .ref a7, .int (nI ps), .int (nI bk), .ref a8, .ref a9, .ref a10, .ref a11, .ref a12, .ref a13, .ref a14, .ref a15, .int (nI kf), .int lb, .int (nI lc), .long lo, .int (nI el), .int (nI ec), .long eo, .int eb, .long ed, .int (nI mp), .int (nI ml), .long md, .long mo, .int mb, .ref a16, .ref a17])), (a0, .inl (cI, 4097, .inl kd)), (a1, .inl (cI, 4097, .inl wd)), (a3, .inl (cI, 4097, .inl od)), (a5, .inl (cI, 9, .inl ru))]) (Y := 49) (ls1 := ls) (st1 := []) (if (nI 10000) ≤ sm then (100000000 : Int64) else (if (-10000) < sm then (sm.toInt64 * sm.toInt64) else (100000000 : Int64))) (fun v49 H locs e_v49 hP hD hS => ?_) (fun K49 => ?_)
  · skip
    refine lv_lstore (lv' := [(6, .long v49), (5, .int pp), (4, .int sm), (0, .ref o), (1, .int (-1)), (2, .int (nI b)), (3, .int (nI was))]) hx hb dd_M_cost_49 hl (by decide) rfl (fun ls hl => ?_)
    refine lv_lload hx hb dd_M_cost_51 (lv_at hl 0 rfl) ?_
    refine lv_iload hx hb dd_M_cost_53 (lv_at hl 1 rfl) ?_
    refine kx_joinl (D := D) (cl := vwCl) (A := A) (ws := [(o, .inr (0, [.int (nI th), .int (nI cn), .ref a0, .ref a1, .ref a2, .ref a3, .ref a4, .ref a5, .int (nI mn), .ref a6, .ref a7, .int (nI ps), .int (nI bk), .ref a8, .ref a9, .ref a10, .ref a11, .ref a12, .ref a13, .ref a14, .ref a15, .int (nI kf), .int lb, .int (nI lc), .long lo, .int (nI el), .int (nI ec), .long eo, .int eb, .long ed, .int (nI mp), .int (nI ml), .long md, .long mo, .int mb, .ref a16, .ref a17])), (a0, .inl (cI, 4097, .inl kd)), (a1, .inl (cI, 4097, .inl wd)), (a3, .inl (cI, 4097, .inl od)), (a5, .inl (cI, 9, .inl ru))]) (Y := 88) (ls1 := ls) (st1 := [.long v49]) (if pp ≤ 0 then (if pp ≤ (-10000) then (0 : Int64) else ((-pp.toInt64) * pp.toInt64)) else (pp.toInt64 * pp.toInt64)) (fun v88 H locs e_v88 hP hD hS => ?_) (fun K88 => ?_)
    · skip
      refine lv_ladd hx hb dd_M_cost_88 ?_
      refine lv_topl (fun d1 e_d1 => ?_)
      refine lv_lstore (lv' := [(6, .long d1), (5, .int pp), (4, .int sm), (0, .ref o), (1, .int (-1)), (2, .int (nI b)), (3, .int (nI was))]) hx hb dd_M_cost_89 hl (by decide) rfl (fun ls hl => ?_)
      refine lv_lload hx hb dd_M_cost_91 (lv_at hl 0 rfl) ?_
      refine lv_aload_n hx hb dd_M_cost_93 rfl (lv_at hl 3 rfl) ?_
      refine lv_iload_n hx hb dd_M_cost_94 rfl (lv_at hl 5 rfl) ?_
      refine kx_calli (wr := [(a1, .inl (cI, 4097, .inl wd)), (a3, .inl (cI, 4097, .inl od)), (a5, .inl (cI, 9, .inl ru))]) (va_runV (C := rr_M) (As := [.int (nI b)]) (rest := [.long d1]) ⟨hx, hb, hml, hown, hts⟩ (ct_M_isHyphenated l D cI cJ cZ H.size o th cn a0 a1 a2 a3 a4 a5 mn a6 a7 ps bk a8 a9 a10 a11 a12 a13 a14 a15 kf lb lc lo el ec eo eb ed mp ml md mo mb a16 a17 kd b (by omega) (by omega)) ⟨(callB_of 1 hts (kx_good kw_1006) rfl rfl rfl (hts _ (kx_m kw_53)) (hts _ (kx_m kw_1003)) (by decide +kernel) ⟨Nat.le_of_ble_eq_true rfl, Nat.le_of_ble_eq_true rfl⟩), (hts _ (kx_m kw_1005)), (hts _ (kx_m kw_33))⟩ (kx_preV (ci := 0) (q0 := 0) hK hN (hP.sub [0, 1] kt_5_0_1) (hD.sub [0, 1] (by decide) ks_5_0_1) rfl kg_2_0) rfl rfl hl.1 rfl (lv_room (Nat.le_of_ble_eq_true rfl)) dd_M_cost_95 ⟨Nat.le_of_ble_eq_true rfl, Nat.le_of_ble_eq_true rfl⟩) hP hD hS hA [0, 1] [2, 3, 4] ks_5_0_1 ks_5_2_3_4 (by decide) (by decide) (fun r95 u95 H locs hw95 hP hD hS => ?_)
      have hP : va_P D vwCl [(a1, .inl (cI, 4097, .inl wd)), (a3, .inl (cI, 4097, .inl od)), (a5, .inl (cI, 9, .inl ru)), (o, .inr (0, [.int (nI th), .int (nI cn), .ref a0, .ref a1, .ref a2, .ref a3, .ref a4, .ref a5, .int (nI mn), .ref a6, .ref a7, .int (nI ps), .int (nI bk), .ref a8, .ref a9, .ref a10, .ref a11, .ref a12, .ref a13, .ref a14, .ref a15, .int (nI kf), .int lb, .int (nI lc), .long lo, .int (nI el), .int (nI ec), .long eo, .int eb, .long ed, .int (nI mp), .int (nI ml), .long md, .long mo, .int mb, .ref a16, .ref a17])), (a0, .inl (cI, 4097, .inl kd))] H := hP
      have hD : va_D A [(a1, .inl (cI, 4097, .inl wd)), (a3, .inl (cI, 4097, .inl od)), (a5, .inl (cI, 9, .inl ru)), (o, .inr (0, [.int (nI th), .int (nI cn), .ref a0, .ref a1, .ref a2, .ref a3, .ref a4, .ref a5, .int (nI mn), .ref a6, .ref a7, .int (nI ps), .int (nI bk), .ref a8, .ref a9, .ref a10, .ref a11, .ref a12, .ref a13, .ref a14, .ref a15, .int (nI kf), .int lb, .int (nI lc), .long lo, .int (nI el), .int (nI ec), .long eo, .int eb, .long ed, .int (nI mp), .int (nI ml), .long md, .long mo, .int mb, .ref a16, .ref a17])), (a0, .inl (cI, 4097, .inl kd))] := hD
      have hP : va_P D vwCl [(o, .inr (0, [.int (nI th), .int (nI cn), .ref a0, .ref a1, .ref a2, .ref a3, .ref a4, .ref a5, .int (nI mn), .ref a6, .ref a7, .int (nI ps), .int (nI bk), .ref a8, .ref a9, .ref a10, .ref a11, .ref a12, .ref a13, .ref a14, .ref a15, .int (nI kf), .int lb, .int (nI lc), .long lo, .int (nI el), .int (nI ec), .long eo, .int eb, .long ed, .int (nI mp), .int (nI ml), .long md, .long mo, .int mb, .ref a16, .ref a17])), (a0, .inl (cI, 4097, .inl kd)), (a1, .inl (cI, 4097, .inl wd)), (a3, .inl (cI, 4097, .inl od)), (a5, .inl (cI, 9, .inl ru))] H := hP.sub [3, 4, 0, 1, 2] kt_5_3_4_0_1_2
      have hD : va_D A [(o, .inr (0, [.int (nI th), .int (nI cn), .ref a0, .ref a1, .ref a2, .ref a3, .ref a4, .ref a5, .int (nI mn), .ref a6, .ref a7, .int (nI ps), .int (nI bk), .ref a8, .ref a9, .ref a10, .ref a11, .ref a12, .ref a13, .ref a14, .ref a15, .int (nI kf), .int lb, .int (nI lc), .long lo, .int (nI el), .int (nI ec), .long eo, .int eb, .long ed, .int (nI mp), .int (nI ml), .long md, .long mo, .int mb, .ref a16, .ref a17])), (a0, .inl (cI, 4097, .inl kd)), (a1, .inl (cI, 4097, .inl wd)), (a3, .inl (cI, 4097, .inl od)), (a5, .inl (cI, 9, .inl ru))] := hD.sub [3, 4, 0, 1, 2] (by decide) ks_5_3_4_0_1_2
      have hw95 : r95 = kb_p (b < cn ∧ kd b = nI 4) := hw95
      subst hw95
      refine kx_joinl (D := D) (cl := vwCl) (A := A) (ws := [(o, .inr (0, [.int (nI th), .int (nI cn), .ref a0, .ref a1, .ref a2, .ref a3, .ref a4, .ref a5, .int (nI mn), .ref a6, .ref a7, .int (nI ps), .int (nI bk), .ref a8, .ref a9, .ref a10, .ref a11, .ref a12, .ref a13, .ref a14, .ref a15, .int (nI kf), .int lb, .int (nI lc), .long lo, .int (nI el), .int (nI ec), .long eo, .int eb, .long ed, .int (nI mp), .int (nI ml), .long md, .long mo, .int mb, .ref a16, .ref a17])), (a0, .inl (cI, 4097, .inl kd)), (a1, .inl (cI, 4097, .inl wd)), (a3, .inl (cI, 4097, .inl od)), (a5, .inl (cI, 9, .inl ru))]) (Y := 121) (ls1 := ls) (st1 := [.long d1]) (if b < cn ∧ kd b = nI 4 then (0 : Int64) else (0 : Int64)) (fun v121 H locs e_v121 hP hD hS => ?_) (fun K121 => ?_)
      · skip
        refine lv_ladd hx hb dd_M_cost_121 ?_
        refine lv_topl (fun d2 e_d2 => ?_)
        refine lv_lstore (lv' := [(6, .long d2), (5, .int pp), (4, .int sm), (0, .ref o), (1, .int (-1)), (2, .int (nI b)), (3, .int (nI was))]) hx hb dd_M_cost_122 hl (by decide) rfl (fun ls hl => ?_)
        refine lv_lload hx hb dd_M_cost_124 (lv_at hl 0 rfl) ?_
        refine lv_iload_n hx hb dd_M_cost_126 rfl (lv_at hl 5 rfl) ?_
        refine lv_aload_n hx hb dd_M_cost_127 rfl (lv_at hl 3 rfl) ?_
        refine va_get (D := D) (ci := 0) (v := .int (nI cn)) (C := rr_M) (T := tt_M) (N := 37) hx hb hts hin0 hown hK hP 0 kg_5_0 rfl 1 (by decide) lk4 (fun _ h9 => h9) rfl dd_M_cost_128 ?_
        refine kx_joinl (D := D) (cl := vwCl) (A := A) (ws := [(o, .inr (0, [.int (nI th), .int (nI cn), .ref a0, .ref a1, .ref a2, .ref a3, .ref a4, .ref a5, .int (nI mn), .ref a6, .ref a7, .int (nI ps), .int (nI bk), .ref a8, .ref a9, .ref a10, .ref a11, .ref a12, .ref a13, .ref a14, .ref a15, .int (nI kf), .int lb, .int (nI lc), .long lo, .int (nI el), .int (nI ec), .long eo, .int eb, .long ed, .int (nI mp), .int (nI ml), .long md, .long mo, .int mb, .ref a16, .ref a17])), (a0, .inl (cI, 4097, .inl kd)), (a1, .inl (cI, 4097, .inl wd)), (a3, .inl (cI, 4097, .inl od)), (a5, .inl (cI, 9, .inl ru))]) (Y := 154) (ls1 := ls) (st1 := [.long d2]) (if b = cn then (0 : Int64) else (0 : Int64)) (fun v154 H locs e_v154 hP hD hS => ?_) (fun K154 => ?_)
        · skip
          refine lv_ladd hx hb dd_M_cost_154 ?_
          refine lv_topl (fun d3 e_d3 => ?_)
          refine lv_lstore (lv' := [(6, .long d3), (5, .int pp), (4, .int sm), (0, .ref o), (1, .int (-1)), (2, .int (nI b)), (3, .int (nI was))]) hx hb dd_M_cost_155 hl (by decide) rfl (fun ls hl => ?_)
          refine lv_aload_n hx hb dd_M_cost_157 rfl (lv_at hl 3 rfl) ?_
          refine va_get (D := D) (ci := 0) (v := .int (nI lc)) (C := rr_M) (T := tt_M) (N := 37) hx hb hts hin0 hown hK hP 0 kg_5_0 rfl 23 (by decide) lk5 (fun _ h9 => h9) rfl dd_M_cost_158 ?_
          refine lv_iload_n hx hb dd_M_cost_161 rfl (lv_at hl 6 rfl) ?_
          refine lv_isub hx hb dd_M_cost_162 ?_
          refine lv_iconst (v := nI 1) hx hb dd_M_cost_163 (by decide) ?_
          refine lv_icmp_gt (tgt := 177) hx hb dd_M_cost_164 (by decide) (fun c164 => ?_) (fun c164 => ?_)
          · skip
            refine lv_lload hx hb dd_M_cost_177 (lv_at hl 0 rfl) ?_
            refine lv_aload_n hx hb dd_M_cost_179 rfl (lv_at hl 3 rfl) ?_
            refine va_get (D := D) (ci := 0) (v := .ref a5) (C := rr_M) (T := tt_M) (N := 37) hx hb hts hin0 hown hK hP 0 kg_5_0 rfl 7 (by decide) lk0 (fun _ h9 => h9) rfl dd_M_cost_180 ?_
            refine lv_iconst (v := nI 5) hx hb dd_M_cost_183 (by decide) ?_
            refine kx_iald (q0 := 4) (t0 := 0) hx hb dd_M_cost_184 hK hP kg_5_4 rfl (by omega) (by omega) ?_
            refine lv_i2l hx hb dd_M_cost_185 rfl ?_
            refine lv_ladd hx hb dd_M_cost_186 ?_
            refine lv_goto (tgt := 192) hx hb dd_M_cost_187 (by decide) ?_
            have hd : d3 = pm_d0 (ru 2 + lb) + pm_d1 (pm_pen kd wd od ru cn b) + (if pm_hy kd cn b then (if False then (ru 6).toInt64 else 0) else 0) + (if b = cn then (if False then (ru 7).toInt64 else 0) else 0) := by rw [e_d3, e_d2, e_d1, e_v49, e_v88, e_v121, e_v154, e_pp, e_sm]; first | rfl | (simp only [if_false, ite_self]; rfl)
            rw [hQ]
            exact kx_lret hx hb hr hlocks hK hN hS dd_M_cost_192 () hP hD (by rw [hd]; unfold pm_cost; first | (rw [if_pos (show pm_adj lc was from Or.inl c164)]; done) | (rw [if_pos (show pm_adj lc was from Or.inr c174)]; done) | (rw [if_neg (show ¬ pm_adj lc was from fun q => q.elim c164 (fun z => z c174)), Int64.add_zero]; done))
          · skip
            refine lv_iload_n hx hb dd_M_cost_167 rfl (lv_at hl 6 rfl) ?_
            refine lv_aload_n hx hb dd_M_cost_168 rfl (lv_at hl 3 rfl) ?_
            refine va_get (D := D) (ci := 0) (v := .int (nI lc)) (C := rr_M) (T := tt_M) (N := 37) hx hb hts hin0 hown hK hP 0 kg_5_0 rfl 23 (by decide) lk5 (fun _ h9 => h9) rfl dd_M_cost_169 ?_
            refine lv_isub hx hb dd_M_cost_172 ?_
            refine lv_iconst (v := nI 1) hx hb dd_M_cost_173 (by decide) ?_
            refine lv_icmp_le (tgt := 190) hx hb dd_M_cost_174 (by decide) (fun c174 => ?_) (fun c174 => ?_)
            · skip
              refine lv_lload hx hb dd_M_cost_190 (lv_at hl 0 rfl) ?_
              have hd : d3 = pm_d0 (ru 2 + lb) + pm_d1 (pm_pen kd wd od ru cn b) + (if pm_hy kd cn b then (if False then (ru 6).toInt64 else 0) else 0) + (if b = cn then (if False then (ru 7).toInt64 else 0) else 0) := by rw [e_d3, e_d2, e_d1, e_v49, e_v88, e_v121, e_v154, e_pp, e_sm]; first | rfl | (simp only [if_false, ite_self]; rfl)
              rw [hQ]
              exact kx_lret hx hb hr hlocks hK hN hS dd_M_cost_192 () hP hD (by rw [hd]; unfold pm_cost; first | (rw [if_pos (show pm_adj lc was from Or.inl c164)]; done) | (rw [if_pos (show pm_adj lc was from Or.inr c174)]; done) | (rw [if_neg (show ¬ pm_adj lc was from fun q => q.elim c164 (fun z => z c174)), Int64.add_zero]; done))
            · skip
              refine lv_lload hx hb dd_M_cost_177 (lv_at hl 0 rfl) ?_
              refine lv_aload_n hx hb dd_M_cost_179 rfl (lv_at hl 3 rfl) ?_
              refine va_get (D := D) (ci := 0) (v := .ref a5) (C := rr_M) (T := tt_M) (N := 37) hx hb hts hin0 hown hK hP 0 kg_5_0 rfl 7 (by decide) lk0 (fun _ h9 => h9) rfl dd_M_cost_180 ?_
              refine lv_iconst (v := nI 5) hx hb dd_M_cost_183 (by decide) ?_
              refine kx_iald (q0 := 4) (t0 := 0) hx hb dd_M_cost_184 hK hP kg_5_4 rfl (by omega) (by omega) ?_
              refine lv_i2l hx hb dd_M_cost_185 rfl ?_
              refine lv_ladd hx hb dd_M_cost_186 ?_
              refine lv_goto (tgt := 192) hx hb dd_M_cost_187 (by decide) ?_
              have hd : d3 = pm_d0 (ru 2 + lb) + pm_d1 (pm_pen kd wd od ru cn b) + (if pm_hy kd cn b then (if False then (ru 6).toInt64 else 0) else 0) + (if b = cn then (if False then (ru 7).toInt64 else 0) else 0) := by rw [e_d3, e_d2, e_d1, e_v49, e_v88, e_v121, e_v154, e_pp, e_sm]; first | rfl | (simp only [if_false, ite_self]; rfl)
              rw [hQ]
              exact kx_lret hx hb hr hlocks hK hN hS dd_M_cost_192 () hP hD (by rw [hd]; unfold pm_cost; first | (rw [if_pos (show pm_adj lc was from Or.inl c164)]; done) | (rw [if_pos (show pm_adj lc was from Or.inr c174)]; done) | (rw [if_neg (show ¬ pm_adj lc was from fun q => q.elim c164 (fun z => z c174)), Int64.add_zero]; done))
        · skip
          refine lv_icmp_ne (tgt := 153) hx hb dd_M_cost_131 (by decide) (fun c131 => ?_) (fun c131 => ?_)
          · skip
            have c131 : ¬ (b = cn) := fun h => c131 ((nI_eq (by omega) (by omega)).mpr h)
            refine lv_lconst (v := 0) hx hb dd_M_cost_153 (by decide) ?_
            exact K154 _ H locs (by rw [if_neg c131]) hP hD hS
          · skip
            have c131 : b = cn := (nI_eq (by omega) (by omega)).mp c131
            refine lv_aload_n hx hb dd_M_cost_134 rfl (lv_at hl 3 rfl) ?_
            refine lv_iload_n hx hb dd_M_cost_135 rfl (lv_at hl 4 rfl) ?_
            refine kx_calli (wr := [(a1, .inl (cI, 4097, .inl wd)), (a3, .inl (cI, 4097, .inl od)), (a5, .inl (cI, 9, .inl ru))]) (va_runV (C := rr_M) (As := [.int (-1)]) (rest := [.long d2]) ⟨hx, hb, hml, hown, hts⟩ (ct_M_isHyphenated_n l D cI cJ cZ H.size o th cn a0 a1 a2 a3 a4 a5 mn a6 a7 ps bk a8 a9 a10 a11 a12 a13 a14 a15 kf lb lc lo el ec eo eb ed mp ml md mo mb a16 a17 kd) ⟨(callB_of 1 hts (kx_good kw_1006) rfl rfl rfl (hts _ (kx_m kw_53)) (hts _ (kx_m kw_1003)) (by decide +kernel) ⟨Nat.le_of_ble_eq_true rfl, Nat.le_of_ble_eq_true rfl⟩), (hts _ (kx_m kw_1005)), (hts _ (kx_m kw_33))⟩ (kx_preV (ci := 0) (q0 := 0) hK hN (hP.sub [0, 1] kt_5_0_1) (hD.sub [0, 1] (by decide) ks_5_0_1) rfl kg_2_0) rfl rfl hl.1 rfl (lv_room (Nat.le_of_ble_eq_true rfl)) dd_M_cost_136 ⟨Nat.le_of_ble_eq_true rfl, Nat.le_of_ble_eq_true rfl⟩) hP hD hS hA [0, 1] [2, 3, 4] ks_5_0_1 ks_5_2_3_4 (by decide) (by decide) (fun r136 u136 H locs hw136 hP hD hS => ?_)
            have hP : va_P D vwCl [(a1, .inl (cI, 4097, .inl wd)), (a3, .inl (cI, 4097, .inl od)), (a5, .inl (cI, 9, .inl ru)), (o, .inr (0, [.int (nI th), .int (nI cn), .ref a0, .ref a1, .ref a2, .ref a3, .ref a4, .ref a5, .int (nI mn), .ref a6, .ref a7, .int (nI ps), .int (nI bk), .ref a8, .ref a9, .ref a10, .ref a11, .ref a12, .ref a13, .ref a14, .ref a15, .int (nI kf), .int lb, .int (nI lc), .long lo, .int (nI el), .int (nI ec), .long eo, .int eb, .long ed, .int (nI mp), .int (nI ml), .long md, .long mo, .int mb, .ref a16, .ref a17])), (a0, .inl (cI, 4097, .inl kd))] H := hP
            have hD : va_D A [(a1, .inl (cI, 4097, .inl wd)), (a3, .inl (cI, 4097, .inl od)), (a5, .inl (cI, 9, .inl ru)), (o, .inr (0, [.int (nI th), .int (nI cn), .ref a0, .ref a1, .ref a2, .ref a3, .ref a4, .ref a5, .int (nI mn), .ref a6, .ref a7, .int (nI ps), .int (nI bk), .ref a8, .ref a9, .ref a10, .ref a11, .ref a12, .ref a13, .ref a14, .ref a15, .int (nI kf), .int lb, .int (nI lc), .long lo, .int (nI el), .int (nI ec), .long eo, .int eb, .long ed, .int (nI mp), .int (nI ml), .long md, .long mo, .int mb, .ref a16, .ref a17])), (a0, .inl (cI, 4097, .inl kd))] := hD
            have hP : va_P D vwCl [(o, .inr (0, [.int (nI th), .int (nI cn), .ref a0, .ref a1, .ref a2, .ref a3, .ref a4, .ref a5, .int (nI mn), .ref a6, .ref a7, .int (nI ps), .int (nI bk), .ref a8, .ref a9, .ref a10, .ref a11, .ref a12, .ref a13, .ref a14, .ref a15, .int (nI kf), .int lb, .int (nI lc), .long lo, .int (nI el), .int (nI ec), .long eo, .int eb, .long ed, .int (nI mp), .int (nI ml), .long md, .long mo, .int mb, .ref a16, .ref a17])), (a0, .inl (cI, 4097, .inl kd)), (a1, .inl (cI, 4097, .inl wd)), (a3, .inl (cI, 4097, .inl od)), (a5, .inl (cI, 9, .inl ru))] H := hP.sub [3, 4, 0, 1, 2] kt_5_3_4_0_1_2
            have hD : va_D A [(o, .inr (0, [.int (nI th), .int (nI cn), .ref a0, .ref a1, .ref a2, .ref a3, .ref a4, .ref a5, .int (nI mn), .ref a6, .ref a7, .int (nI ps), .int (nI bk), .ref a8, .ref a9, .ref a10, .ref a11, .ref a12, .ref a13, .ref a14, .ref a15, .int (nI kf), .int lb, .int (nI lc), .long lo, .int (nI el), .int (nI ec), .long eo, .int eb, .long ed, .int (nI mp), .int (nI ml), .long md, .long mo, .int mb, .ref a16, .ref a17])), (a0, .inl (cI, 4097, .inl kd)), (a1, .inl (cI, 4097, .inl wd)), (a3, .inl (cI, 4097, .inl od)), (a5, .inl (cI, 9, .inl ru))] := hD.sub [3, 4, 0, 1, 2] (by decide) ks_5_3_4_0_1_2
            have hw136 : r136 = kb_p False := hw136
            subst hw136
            refine lv_if_eq (tgt := 153) hx hb dd_M_cost_139 (by decide) (fun _ => ?_) (fun h => absurd (by decide +kernel) h)
            refine lv_lconst (v := 0) hx hb dd_M_cost_153 (by decide) ?_
            exact K154 _ H locs (by rw [if_pos c131]) hP hD hS
      · skip
        refine lv_if_eq (tgt := 120) hx hb dd_M_cost_98 (by decide) (fun c98 => ?_) (fun c98 => ?_)
        · skip
          have c98 : ¬ (b < cn ∧ kd b = nI 4) := kb_0.mp c98
          refine lv_lconst (v := 0) hx hb dd_M_cost_120 (by decide) ?_
          exact K121 _ H locs (by rw [if_neg c98]) hP hD hS
        · skip
          have c98 : b < cn ∧ kd b = nI 4 := kb_1.mp c98
          refine lv_aload_n hx hb dd_M_cost_101 rfl (lv_at hl 3 rfl) ?_
          refine lv_iload_n hx hb dd_M_cost_102 rfl (lv_at hl 4 rfl) ?_
          refine kx_calli (wr := [(a1, .inl (cI, 4097, .inl wd)), (a3, .inl (cI, 4097, .inl od)), (a5, .inl (cI, 9, .inl ru))]) (va_runV (C := rr_M) (As := [.int (-1)]) (rest := [.long d1]) ⟨hx, hb, hml, hown, hts⟩ (ct_M_isHyphenated_n l D cI cJ cZ H.size o th cn a0 a1 a2 a3 a4 a5 mn a6 a7 ps bk a8 a9 a10 a11 a12 a13 a14 a15 kf lb lc lo el ec eo eb ed mp ml md mo mb a16 a17 kd) ⟨(callB_of 1 hts (kx_good kw_1006) rfl rfl rfl (hts _ (kx_m kw_53)) (hts _ (kx_m kw_1003)) (by decide +kernel) ⟨Nat.le_of_ble_eq_true rfl, Nat.le_of_ble_eq_true rfl⟩), (hts _ (kx_m kw_1005)), (hts _ (kx_m kw_33))⟩ (kx_preV (ci := 0) (q0 := 0) hK hN (hP.sub [0, 1] kt_5_0_1) (hD.sub [0, 1] (by decide) ks_5_0_1) rfl kg_2_0) rfl rfl hl.1 rfl (lv_room (Nat.le_of_ble_eq_true rfl)) dd_M_cost_103 ⟨Nat.le_of_ble_eq_true rfl, Nat.le_of_ble_eq_true rfl⟩) hP hD hS hA [0, 1] [2, 3, 4] ks_5_0_1 ks_5_2_3_4 (by decide) (by decide) (fun r103 u103 H locs hw103 hP hD hS => ?_)
          have hP : va_P D vwCl [(a1, .inl (cI, 4097, .inl wd)), (a3, .inl (cI, 4097, .inl od)), (a5, .inl (cI, 9, .inl ru)), (o, .inr (0, [.int (nI th), .int (nI cn), .ref a0, .ref a1, .ref a2, .ref a3, .ref a4, .ref a5, .int (nI mn), .ref a6, .ref a7, .int (nI ps), .int (nI bk), .ref a8, .ref a9, .ref a10, .ref a11, .ref a12, .ref a13, .ref a14, .ref a15, .int (nI kf), .int lb, .int (nI lc), .long lo, .int (nI el), .int (nI ec), .long eo, .int eb, .long ed, .int (nI mp), .int (nI ml), .long md, .long mo, .int mb, .ref a16, .ref a17])), (a0, .inl (cI, 4097, .inl kd))] H := hP
          have hD : va_D A [(a1, .inl (cI, 4097, .inl wd)), (a3, .inl (cI, 4097, .inl od)), (a5, .inl (cI, 9, .inl ru)), (o, .inr (0, [.int (nI th), .int (nI cn), .ref a0, .ref a1, .ref a2, .ref a3, .ref a4, .ref a5, .int (nI mn), .ref a6, .ref a7, .int (nI ps), .int (nI bk), .ref a8, .ref a9, .ref a10, .ref a11, .ref a12, .ref a13, .ref a14, .ref a15, .int (nI kf), .int lb, .int (nI lc), .long lo, .int (nI el), .int (nI ec), .long eo, .int eb, .long ed, .int (nI mp), .int (nI ml), .long md, .long mo, .int mb, .ref a16, .ref a17])), (a0, .inl (cI, 4097, .inl kd))] := hD
          have hP : va_P D vwCl [(o, .inr (0, [.int (nI th), .int (nI cn), .ref a0, .ref a1, .ref a2, .ref a3, .ref a4, .ref a5, .int (nI mn), .ref a6, .ref a7, .int (nI ps), .int (nI bk), .ref a8, .ref a9, .ref a10, .ref a11, .ref a12, .ref a13, .ref a14, .ref a15, .int (nI kf), .int lb, .int (nI lc), .long lo, .int (nI el), .int (nI ec), .long eo, .int eb, .long ed, .int (nI mp), .int (nI ml), .long md, .long mo, .int mb, .ref a16, .ref a17])), (a0, .inl (cI, 4097, .inl kd)), (a1, .inl (cI, 4097, .inl wd)), (a3, .inl (cI, 4097, .inl od)), (a5, .inl (cI, 9, .inl ru))] H := hP.sub [3, 4, 0, 1, 2] kt_5_3_4_0_1_2
          have hD : va_D A [(o, .inr (0, [.int (nI th), .int (nI cn), .ref a0, .ref a1, .ref a2, .ref a3, .ref a4, .ref a5, .int (nI mn), .ref a6, .ref a7, .int (nI ps), .int (nI bk), .ref a8, .ref a9, .ref a10, .ref a11, .ref a12, .ref a13, .ref a14, .ref a15, .int (nI kf), .int lb, .int (nI lc), .long lo, .int (nI el), .int (nI ec), .long eo, .int eb, .long ed, .int (nI mp), .int (nI ml), .long md, .long mo, .int mb, .ref a16, .ref a17])), (a0, .inl (cI, 4097, .inl kd)), (a1, .inl (cI, 4097, .inl wd)), (a3, .inl (cI, 4097, .inl od)), (a5, .inl (cI, 9, .inl ru))] := hD.sub [3, 4, 0, 1, 2] (by decide) ks_5_3_4_0_1_2
          have hw103 : r103 = kb_p False := hw103
          subst hw103
          refine lv_if_eq (tgt := 120) hx hb dd_M_cost_106 (by decide) (fun _ => ?_) (fun h => absurd (by decide +kernel) h)
          refine lv_lconst (v := 0) hx hb dd_M_cost_120 (by decide) ?_
          exact K121 _ H locs (by rw [if_pos c98]) hP hD hS
    · skip
      refine lv_if_le (tgt := 68) hx hb dd_M_cost_55 (by decide) (fun c55 => ?_) (fun c55 => ?_)
      · skip
        refine lv_iload hx hb dd_M_cost_68 (lv_at hl 1 rfl) ?_
        refine lv_sipush (v := (-10000)) hx hb dd_M_cost_70 (by decide) ?_
        refine lv_icmp_le (tgt := 87) hx hb dd_M_cost_73 (by decide) (fun c73 => ?_) (fun c73 => ?_)
        · skip
          refine lv_lconst (v := 0) hx hb dd_M_cost_87 (by decide) ?_
          exact K88 _ H locs (by rw [if_pos c55, if_pos c73]) hP hD hS
        · skip
          refine lv_iload hx hb dd_M_cost_76 (lv_at hl 1 rfl) ?_
          refine lv_i2l hx hb dd_M_cost_78 rfl ?_
          refine lv_lneg hx hb dd_M_cost_79 ?_
          refine lv_iload hx hb dd_M_cost_80 (lv_at hl 1 rfl) ?_
          refine lv_i2l hx hb dd_M_cost_82 rfl ?_
          refine lv_lmul hx hb dd_M_cost_83 ?_
          refine lv_goto (tgt := 88) hx hb dd_M_cost_84 (by decide) ?_
          exact K88 _ H locs (by rw [if_pos c55, if_neg c73]) hP hD hS
      · skip
        refine lv_iload hx hb dd_M_cost_58 (lv_at hl 1 rfl) ?_
        refine lv_i2l hx hb dd_M_cost_60 rfl ?_
        refine lv_iload hx hb dd_M_cost_61 (lv_at hl 1 rfl) ?_
        refine lv_i2l hx hb dd_M_cost_63 rfl ?_
        refine lv_lmul hx hb dd_M_cost_64 ?_
        refine lv_goto (tgt := 88) hx hb dd_M_cost_65 (by decide) ?_
        exact K88 _ H locs (by rw [if_neg c55]) hP hD hS
  · skip
    refine lv_icmp_ge (tgt := 36) hx hb dd_M_cost_25 (by decide) (fun c25 => ?_) (fun c25 => ?_)
    · skip
      refine lv_ldc2 (v := (100000000)) hx hb hown lk3 dd_M_cost_36 ?_
      refine lv_goto (tgt := 49) hx hb dd_M_cost_39 (by decide) ?_
      exact K49 _ H locs (by rw [if_pos c25]) hP hD hS
    · skip
      refine lv_iload hx hb dd_M_cost_28 (lv_at hl 1 rfl) ?_
      refine lv_sipush (v := (-10000)) hx hb dd_M_cost_30 (by decide) ?_
      refine lv_icmp_gt (tgt := 42) hx hb dd_M_cost_33 (by decide) (fun c33 => ?_) (fun c33 => ?_)
      · skip
        refine lv_iload hx hb dd_M_cost_42 (lv_at hl 1 rfl) ?_
        refine lv_i2l hx hb dd_M_cost_44 rfl ?_
        refine lv_iload hx hb dd_M_cost_45 (lv_at hl 1 rfl) ?_
        refine lv_i2l hx hb dd_M_cost_47 rfl ?_
        refine lv_lmul hx hb dd_M_cost_48 ?_
        exact K49 _ H locs (by rw [if_neg c25, if_pos c33]) hP hD hS
      · skip
        refine lv_ldc2 (v := (100000000)) hx hb hown lk3 dd_M_cost_36 ?_
        refine lv_goto (tgt := 49) hx hb dd_M_cost_39 (by decide) ?_
        exact K49 _ H locs (by rw [if_neg c25, if_neg c33]) hP hD hS

theorem dd_M_keep_0 : decode bb_M_keep 0 = .ok (.sipush (1608), 3) := by decide +kernel
theorem dd_M_keep_3 : decode bb_M_keep 3 = .ok (.iload_n 2, 1) := by decide +kernel
theorem dd_M_keep_4 : decode bb_M_keep 4 = .ok (.iconst 1, 1) := by decide +kernel
theorem dd_M_keep_5 : decode bb_M_keep 5 = .ok (.iand, 1) := by decide +kernel
theorem dd_M_keep_6 : decode bb_M_keep 6 = .ok (.imul, 1) := by decide +kernel
theorem dd_M_keep_7 : decode bb_M_keep 7 = .ok (.iconst 4, 1) := by decide +kernel
theorem dd_M_keep_8 : decode bb_M_keep 8 = .ok (.iload_n 1, 1) := by decide +kernel
theorem dd_M_keep_9 : decode bb_M_keep 9 = .ok (.imul, 1) := by decide +kernel
theorem dd_M_keep_10 : decode bb_M_keep 10 = .ok (.iadd, 1) := by decide +kernel
theorem dd_M_keep_11 : decode bb_M_keep 11 = .ok (.aload_n 0, 1) := by decide +kernel
theorem dd_M_keep_12 : decode bb_M_keep 12 = .ok (.getfield 129, 3) := by decide +kernel
theorem dd_M_keep_15 : decode bb_M_keep 15 = .ok (.iadd, 1) := by decide +kernel
theorem dd_M_keep_16 : decode bb_M_keep 16 = .ok (.istore 9, 2) := by decide +kernel
theorem dd_M_keep_18 : decode bb_M_keep 18 = .ok (.sipush (402), 3) := by decide +kernel
theorem dd_M_keep_21 : decode bb_M_keep 21 = .ok (.iload_n 2, 1) := by decide +kernel
theorem dd_M_keep_22 : decode bb_M_keep 22 = .ok (.imul, 1) := by decide +kernel
theorem dd_M_keep_23 : decode bb_M_keep 23 = .ok (.iload_n 1, 1) := by decide +kernel
theorem dd_M_keep_24 : decode bb_M_keep 24 = .ok (.iadd, 1) := by decide +kernel
theorem dd_M_keep_25 : decode bb_M_keep 25 = .ok (.istore 10, 2) := by decide +kernel
theorem dd_M_keep_27 : decode bb_M_keep 27 = .ok (.bipush (16), 2) := by decide +kernel
theorem dd_M_keep_29 : decode bb_M_keep 29 = .ok (.aload_n 0, 1) := by decide +kernel
theorem dd_M_keep_30 : decode bb_M_keep 30 = .ok (.getfield 129, 3) := by decide +kernel
theorem dd_M_keep_33 : decode bb_M_keep 33 = .ok (.imul, 1) := by decide +kernel
theorem dd_M_keep_34 : decode bb_M_keep 34 = .ok (.istore 11, 2) := by decide +kernel
theorem dd_M_keep_36 : decode bb_M_keep 36 = .ok (.aload_n 0, 1) := by decide +kernel
theorem dd_M_keep_37 : decode bb_M_keep 37 = .ok (.getfield 41, 3) := by decide +kernel
theorem dd_M_keep_40 : decode bb_M_keep 40 = .ok (.iload 9, 2) := by decide +kernel
theorem dd_M_keep_42 : decode bb_M_keep 42 = .ok (.baload, 1) := by decide +kernel
theorem dd_M_keep_43 : decode bb_M_keep 43 = .ok (.ifCond .eq (146), 3) := by decide +kernel
theorem dd_M_keep_46 : decode bb_M_keep 46 = .ok (.aload_n 0, 1) := by decide +kernel
theorem dd_M_keep_47 : decode bb_M_keep 47 = .ok (.getfield 56, 3) := by decide +kernel
theorem dd_M_keep_50 : decode bb_M_keep 50 = .ok (.iload 10, 2) := by decide +kernel
theorem dd_M_keep_52 : decode bb_M_keep 52 = .ok (.laload, 1) := by decide +kernel
theorem dd_M_keep_53 : decode bb_M_keep 53 = .ok (.iload 11, 2) := by decide +kernel
theorem dd_M_keep_55 : decode bb_M_keep 55 = .ok (.lshr, 1) := by decide +kernel
theorem dd_M_keep_56 : decode bb_M_keep 56 = .ok (.ldc2_w 138, 3) := by decide +kernel
theorem dd_M_keep_59 : decode bb_M_keep 59 = .ok (.land, 1) := by decide +kernel
theorem dd_M_keep_60 : decode bb_M_keep 60 = .ok (.l2i, 1) := by decide +kernel
theorem dd_M_keep_61 : decode bb_M_keep 61 = .ok (.istore 12, 2) := by decide +kernel
theorem dd_M_keep_63 : decode bb_M_keep 63 = .ok (.lload_n 3, 1) := by decide +kernel
theorem dd_M_keep_64 : decode bb_M_keep 64 = .ok (.aload_n 0, 1) := by decide +kernel
theorem dd_M_keep_65 : decode bb_M_keep 65 = .ok (.getfield 45, 3) := by decide +kernel
theorem dd_M_keep_68 : decode bb_M_keep 68 = .ok (.iload 9, 2) := by decide +kernel
theorem dd_M_keep_70 : decode bb_M_keep 70 = .ok (.laload, 1) := by decide +kernel
theorem dd_M_keep_71 : decode bb_M_keep 71 = .ok (.lcmp, 1) := by decide +kernel
theorem dd_M_keep_72 : decode bb_M_keep 72 = .ok (.ifCond .eq (23), 3) := by decide +kernel
theorem dd_M_keep_75 : decode bb_M_keep 75 = .ok (.lload_n 3, 1) := by decide +kernel
theorem dd_M_keep_76 : decode bb_M_keep 76 = .ok (.aload_n 0, 1) := by decide +kernel
theorem dd_M_keep_77 : decode bb_M_keep 77 = .ok (.getfield 45, 3) := by decide +kernel
theorem dd_M_keep_80 : decode bb_M_keep 80 = .ok (.iload 9, 2) := by decide +kernel
theorem dd_M_keep_82 : decode bb_M_keep 82 = .ok (.laload, 1) := by decide +kernel
theorem dd_M_keep_83 : decode bb_M_keep 83 = .ok (.lcmp, 1) := by decide +kernel
theorem dd_M_keep_84 : decode bb_M_keep 84 = .ok (.ifCond .ge (7), 3) := by decide +kernel
theorem dd_M_keep_87 : decode bb_M_keep 87 = .ok (.iconst 1, 1) := by decide +kernel
theorem dd_M_keep_88 : decode bb_M_keep 88 = .ok (.goto (93), 3) := by decide +kernel
theorem dd_M_keep_91 : decode bb_M_keep 91 = .ok (.iconst 0, 1) := by decide +kernel
theorem dd_M_keep_92 : decode bb_M_keep 92 = .ok (.goto (89), 3) := by decide +kernel
theorem dd_M_keep_95 : decode bb_M_keep 95 = .ok (.aload_n 0, 1) := by decide +kernel
theorem dd_M_keep_96 : decode bb_M_keep 96 = .ok (.getfield 92, 3) := by decide +kernel
theorem dd_M_keep_99 : decode bb_M_keep 99 = .ok (.iconst 3, 1) := by decide +kernel
theorem dd_M_keep_100 : decode bb_M_keep 100 = .ok (.if_icmp .ne (35), 3) := by decide +kernel
theorem dd_M_keep_103 : decode bb_M_keep 103 = .ok (.iload 5, 2) := by decide +kernel
theorem dd_M_keep_105 : decode bb_M_keep 105 = .ok (.aload_n 0, 1) := by decide +kernel
theorem dd_M_keep_106 : decode bb_M_keep 106 = .ok (.getfield 49, 3) := by decide +kernel
theorem dd_M_keep_109 : decode bb_M_keep 109 = .ok (.iload 9, 2) := by decide +kernel
theorem dd_M_keep_111 : decode bb_M_keep 111 = .ok (.iaload, 1) := by decide +kernel
theorem dd_M_keep_112 : decode bb_M_keep 112 = .ok (.if_icmp .eq (23), 3) := by decide +kernel
theorem dd_M_keep_115 : decode bb_M_keep 115 = .ok (.iload 5, 2) := by decide +kernel
theorem dd_M_keep_117 : decode bb_M_keep 117 = .ok (.aload_n 0, 1) := by decide +kernel
theorem dd_M_keep_118 : decode bb_M_keep 118 = .ok (.getfield 49, 3) := by decide +kernel
theorem dd_M_keep_121 : decode bb_M_keep 121 = .ok (.iload 9, 2) := by decide +kernel
theorem dd_M_keep_123 : decode bb_M_keep 123 = .ok (.iaload, 1) := by decide +kernel
theorem dd_M_keep_124 : decode bb_M_keep 124 = .ok (.if_icmp .ge (7), 3) := by decide +kernel
theorem dd_M_keep_127 : decode bb_M_keep 127 = .ok (.iconst 1, 1) := by decide +kernel
theorem dd_M_keep_128 : decode bb_M_keep 128 = .ok (.goto (53), 3) := by decide +kernel
theorem dd_M_keep_131 : decode bb_M_keep 131 = .ok (.iconst 0, 1) := by decide +kernel
theorem dd_M_keep_132 : decode bb_M_keep 132 = .ok (.goto (49), 3) := by decide +kernel
theorem dd_M_keep_135 : decode bb_M_keep 135 = .ok (.lload 6, 2) := by decide +kernel
theorem dd_M_keep_137 : decode bb_M_keep 137 = .ok (.aload_n 0, 1) := by decide +kernel
theorem dd_M_keep_138 : decode bb_M_keep 138 = .ok (.getfield 52, 3) := by decide +kernel
theorem dd_M_keep_141 : decode bb_M_keep 141 = .ok (.iload 9, 2) := by decide +kernel
theorem dd_M_keep_143 : decode bb_M_keep 143 = .ok (.laload, 1) := by decide +kernel
theorem dd_M_keep_144 : decode bb_M_keep 144 = .ok (.lcmp, 1) := by decide +kernel
theorem dd_M_keep_145 : decode bb_M_keep 145 = .ok (.ifCond .eq (24), 3) := by decide +kernel
theorem dd_M_keep_148 : decode bb_M_keep 148 = .ok (.lload 6, 2) := by decide +kernel
theorem dd_M_keep_150 : decode bb_M_keep 150 = .ok (.aload_n 0, 1) := by decide +kernel
theorem dd_M_keep_151 : decode bb_M_keep 151 = .ok (.getfield 52, 3) := by decide +kernel
theorem dd_M_keep_154 : decode bb_M_keep 154 = .ok (.iload 9, 2) := by decide +kernel
theorem dd_M_keep_156 : decode bb_M_keep 156 = .ok (.laload, 1) := by decide +kernel
theorem dd_M_keep_157 : decode bb_M_keep 157 = .ok (.lcmp, 1) := by decide +kernel
theorem dd_M_keep_158 : decode bb_M_keep 158 = .ok (.ifCond .ge (7), 3) := by decide +kernel
theorem dd_M_keep_161 : decode bb_M_keep 161 = .ok (.iconst 1, 1) := by decide +kernel
theorem dd_M_keep_162 : decode bb_M_keep 162 = .ok (.goto (19), 3) := by decide +kernel
theorem dd_M_keep_165 : decode bb_M_keep 165 = .ok (.iconst 0, 1) := by decide +kernel
theorem dd_M_keep_166 : decode bb_M_keep 166 = .ok (.goto (15), 3) := by decide +kernel
theorem dd_M_keep_169 : decode bb_M_keep 169 = .ok (.iload 8, 2) := by decide +kernel
theorem dd_M_keep_171 : decode bb_M_keep 171 = .ok (.iload 12, 2) := by decide +kernel
theorem dd_M_keep_173 : decode bb_M_keep 173 = .ok (.if_icmp .ge (7), 3) := by decide +kernel
theorem dd_M_keep_176 : decode bb_M_keep 176 = .ok (.iconst 1, 1) := by decide +kernel
theorem dd_M_keep_177 : decode bb_M_keep 177 = .ok (.goto (4), 3) := by decide +kernel
theorem dd_M_keep_180 : decode bb_M_keep 180 = .ok (.iconst 0, 1) := by decide +kernel
theorem dd_M_keep_181 : decode bb_M_keep 181 = .ok (.istore 13, 2) := by decide +kernel
theorem dd_M_keep_183 : decode bb_M_keep 183 = .ok (.iload 13, 2) := by decide +kernel
theorem dd_M_keep_185 : decode bb_M_keep 185 = .ok (.ifCond .ne (4), 3) := by decide +kernel
theorem dd_M_keep_188 : decode bb_M_keep 188 = .ok (.return_, 1) := by decide +kernel
theorem dd_M_keep_189 : decode bb_M_keep 189 = .ok (.aload_n 0, 1) := by decide +kernel
theorem dd_M_keep_190 : decode bb_M_keep 190 = .ok (.getfield 41, 3) := by decide +kernel
theorem dd_M_keep_193 : decode bb_M_keep 193 = .ok (.iload 9, 2) := by decide +kernel
theorem dd_M_keep_195 : decode bb_M_keep 195 = .ok (.iconst 1, 1) := by decide +kernel
theorem dd_M_keep_196 : decode bb_M_keep 196 = .ok (.bastore, 1) := by decide +kernel
theorem dd_M_keep_197 : decode bb_M_keep 197 = .ok (.aload_n 0, 1) := by decide +kernel
theorem dd_M_keep_198 : decode bb_M_keep 198 = .ok (.getfield 45, 3) := by decide +kernel
theorem dd_M_keep_201 : decode bb_M_keep 201 = .ok (.iload 9, 2) := by decide +kernel
theorem dd_M_keep_203 : decode bb_M_keep 203 = .ok (.lload_n 3, 1) := by decide +kernel
theorem dd_M_keep_204 : decode bb_M_keep 204 = .ok (.lastore, 1) := by decide +kernel
theorem dd_M_keep_205 : decode bb_M_keep 205 = .ok (.aload_n 0, 1) := by decide +kernel
theorem dd_M_keep_206 : decode bb_M_keep 206 = .ok (.getfield 49, 3) := by decide +kernel
theorem dd_M_keep_209 : decode bb_M_keep 209 = .ok (.iload 9, 2) := by decide +kernel
theorem dd_M_keep_211 : decode bb_M_keep 211 = .ok (.iload 5, 2) := by decide +kernel
theorem dd_M_keep_213 : decode bb_M_keep 213 = .ok (.iastore, 1) := by decide +kernel
theorem dd_M_keep_214 : decode bb_M_keep 214 = .ok (.aload_n 0, 1) := by decide +kernel
theorem dd_M_keep_215 : decode bb_M_keep 215 = .ok (.getfield 52, 3) := by decide +kernel
theorem dd_M_keep_218 : decode bb_M_keep 218 = .ok (.iload 9, 2) := by decide +kernel
theorem dd_M_keep_220 : decode bb_M_keep 220 = .ok (.lload 6, 2) := by decide +kernel
theorem dd_M_keep_222 : decode bb_M_keep 222 = .ok (.lastore, 1) := by decide +kernel
theorem dd_M_keep_223 : decode bb_M_keep 223 = .ok (.aload_n 0, 1) := by decide +kernel
theorem dd_M_keep_224 : decode bb_M_keep 224 = .ok (.getfield 56, 3) := by decide +kernel
theorem dd_M_keep_227 : decode bb_M_keep 227 = .ok (.iload 10, 2) := by decide +kernel
theorem dd_M_keep_229 : decode bb_M_keep 229 = .ok (.aload_n 0, 1) := by decide +kernel
theorem dd_M_keep_230 : decode bb_M_keep 230 = .ok (.getfield 56, 3) := by decide +kernel
theorem dd_M_keep_233 : decode bb_M_keep 233 = .ok (.iload 10, 2) := by decide +kernel
theorem dd_M_keep_235 : decode bb_M_keep 235 = .ok (.laload, 1) := by decide +kernel
theorem dd_M_keep_236 : decode bb_M_keep 236 = .ok (.ldc2_w 138, 3) := by decide +kernel
theorem dd_M_keep_239 : decode bb_M_keep 239 = .ok (.iload 11, 2) := by decide +kernel
theorem dd_M_keep_241 : decode bb_M_keep 241 = .ok (.lshl, 1) := by decide +kernel
theorem dd_M_keep_242 : decode bb_M_keep 242 = .ok (.ldc2_w 140, 3) := by decide +kernel
theorem dd_M_keep_245 : decode bb_M_keep 245 = .ok (.lxor, 1) := by decide +kernel
theorem dd_M_keep_246 : decode bb_M_keep 246 = .ok (.land, 1) := by decide +kernel
theorem dd_M_keep_247 : decode bb_M_keep 247 = .ok (.iload 8, 2) := by decide +kernel
theorem dd_M_keep_249 : decode bb_M_keep 249 = .ok (.i2l, 1) := by decide +kernel
theorem dd_M_keep_250 : decode bb_M_keep 250 = .ok (.iload 11, 2) := by decide +kernel
theorem dd_M_keep_252 : decode bb_M_keep 252 = .ok (.lshl, 1) := by decide +kernel
theorem dd_M_keep_253 : decode bb_M_keep 253 = .ok (.lor, 1) := by decide +kernel
theorem dd_M_keep_254 : decode bb_M_keep 254 = .ok (.lastore, 1) := by decide +kernel
theorem dd_M_keep_255 : decode bb_M_keep 255 = .ok (.return_, 1) := by decide +kernel

set_option maxHeartbeats 4000000 in
set_option maxRecDepth 100000 in
theorem ct_M_keep (l : Launch) (D : va_G) (cI cJ cZ : ClassId) (sz : Nat) (o : Nat) (th : Nat) (cn : Nat) (a0 : Nat) (a1 : Nat) (a2 : Nat) (a3 : Nat) (a4 : Nat) (a5 : Nat) (mn : Nat) (a6 : Nat) (a7 : Nat) (ps : Nat) (bk : Nat) (a8 : Nat) (a9 : Nat) (a10 : Nat) (a11 : Nat) (a12 : Nat) (a13 : Nat) (a14 : Nat) (a15 : Nat) (kf : Nat) (lb : Int32) (lc : Nat) (lo : Int64) (el : Nat) (ec : Nat) (eo : Int64) (eb : Int32) (ed : Int64) (mp : Nat) (ml : Nat) (md : Int64) (mo : Int64) (mb : Int32) (a16 : Nat) (a17 : Nat) (iz : Nat → Int32) (ou : Nat → Int64) (ba : Nat → Int32) (de : Nat → Int64) (bc : Nat → Int64) (j : Nat) (n : Nat) (oo : Int64) (ab : Int32) (dd : Int64) (ft : Nat) (hj : j ≤ 400) (hn : n ≤ 400) (hl : lc ≤ 3) (hps : ps ≤ 3) (hft : ft < 65536) : kx_Mv l yy_M_keep ww_M_keep ({ frames := 0, cells := 0, slots := 0, locals := 0 }) D vwCl (kx_ty cI cJ cZ) [.ref o, .int (nI j), .int (nI n), .long oo, .int ab, .long dd, .int (nI ft)] [(o, .inr (0, [.int (nI th), .int (nI cn), .ref a0, .ref a1, .ref a2, .ref a3, .ref a4, .ref a5, .int (nI mn), .ref a6, .ref a7, .int (nI ps), .int (nI bk), .ref a8, .ref a9, .ref a10, .ref a11, .ref a12, .ref a13, .ref a14, .ref a15, .int (nI kf), .int lb, .int (nI lc), .long lo, .int (nI el), .int (nI ec), .long eo, .int eb, .long ed, .int (nI mp), .int (nI ml), .long md, .long mo, .int mb, .ref a16, .ref a17])), (a9, .inl (cZ, 3216, .inl iz)), (a10, .inl (cJ, 3216, .inr (.inl ou))), (a11, .inl (cI, 3216, .inl ba)), (a12, .inl (cJ, 3216, .inr (.inl de))), (a13, .inl (cJ, 161604, .inr (.inl bc)))] sz (fun (u : (Nat → Int32) × (Nat → Int64) × (Nat → Int32) × (Nat → Int64) × (Nat → Int64)) => (pm_nw (iz (pm_at j n lc)) (pm_bt ps oo (ou (pm_at j n lc)) ab (ba (pm_at j n lc)) dd (de (pm_at j n lc)) (nI ft) (pm_bk (bc (pm_pc j n)) lc)) ∧ u.1 = upd iz (pm_at j n lc) (nI 1) ∧ u.2.1 = vp_updL ou (pm_at j n lc) oo ∧ u.2.2.1 = upd ba (pm_at j n lc) ab ∧ u.2.2.2.1 = vp_updL de (pm_at j n lc) dd ∧ u.2.2.2.2 = vp_updL bc (pm_pc j n) (pm_bs (bc (pm_pc j n)) lc (nI ft))) ∨ (¬ (pm_nw (iz (pm_at j n lc)) (pm_bt ps oo (ou (pm_at j n lc)) ab (ba (pm_at j n lc)) dd (de (pm_at j n lc)) (nI ft) (pm_bk (bc (pm_pc j n)) lc))) ∧ u.1 = iz ∧ u.2.1 = ou ∧ u.2.2.1 = ba ∧ u.2.2.2.1 = de ∧ u.2.2.2.2 = bc)) (fun (u : (Nat → Int32) × (Nat → Int64) × (Nat → Int32) × (Nat → Int64) × (Nat → Int64)) => [(o, .inr (0, [.int (nI th), .int (nI cn), .ref a0, .ref a1, .ref a2, .ref a3, .ref a4, .ref a5, .int (nI mn), .ref a6, .ref a7, .int (nI ps), .int (nI bk), .ref a8, .ref a9, .ref a10, .ref a11, .ref a12, .ref a13, .ref a14, .ref a15, .int (nI kf), .int lb, .int (nI lc), .long lo, .int (nI el), .int (nI ec), .long eo, .int eb, .long ed, .int (nI mp), .int (nI ml), .long md, .long mo, .int mb, .ref a16, .ref a17])), (a9, .inl (cZ, 3216, .inl u.1)), (a10, .inl (cJ, 3216, .inr (.inl u.2.1))), (a11, .inl (cI, 3216, .inl u.2.2.1)), (a12, .inl (cJ, 3216, .inr (.inl u.2.2.2.1))), (a13, .inl (cJ, 161604, .inr (.inl u.2.2.2.2)))]) 0 0 := by
  refine kx_startv (by decide) rfl (Nat.le_of_ble_eq_true rfl) ?_
  intro p e s m below meth c A ls hx hb hr hml hts hown hlocks hin hP hK hN hD hA hS hl
  have hl : lv_has ls 14 [(0, .ref o), (1, .int (nI j)), (2, .int (nI n)), (3, .long oo), (5, .int ab), (6, .long dd), (8, .int (nI ft))] := hl
  have hown : s.vm.findClass rr_M = some m.cls := hown
  have lk0 := hts _ (kx_m kw_821)
  have hin0 : ∀ w ∈ u_ws rr_M tt_M 37, w ∈ ww_M_keep := fun w h => kx_m (kf_M w h)
  have lk2 := hts _ (kx_m kw_812)
  have lk3 := hts _ (kx_m kw_813)
  have lk4 := hts _ (kx_m kw_814)
  have lk5 := hts _ (kx_m kw_815)
  have lk6 := hts _ (kx_m kw_816)
  have lk7 := hts _ (kx_m kw_1035)
  have lk8 := hts _ (kx_m kw_1036)
  have lk9 := hts _ (kx_m kw_809)
  obtain ⟨H, hH⟩ : ∃ H, H = s.heap := ⟨_, rfl⟩
  obtain ⟨locs, hlocs⟩ : ∃ z : List Loc, z = [] := ⟨_, rfl⟩
  have hP : va_P D vwCl [(o, .inr (0, [.int (nI th), .int (nI cn), .ref a0, .ref a1, .ref a2, .ref a3, .ref a4, .ref a5, .int (nI mn), .ref a6, .ref a7, .int (nI ps), .int (nI bk), .ref a8, .ref a9, .ref a10, .ref a11, .ref a12, .ref a13, .ref a14, .ref a15, .int (nI kf), .int lb, .int (nI lc), .long lo, .int (nI el), .int (nI ec), .long eo, .int eb, .long ed, .int (nI mp), .int (nI ml), .long md, .long mo, .int mb, .ref a16, .ref a17])), (a9, .inl (cZ, 3216, .inl iz)), (a10, .inl (cJ, 3216, .inr (.inl ou))), (a11, .inl (cI, 3216, .inl ba)), (a12, .inl (cJ, 3216, .inr (.inl de))), (a13, .inl (cJ, 161604, .inr (.inl bc)))] H := by rw [hH]; exact hP
  have hS : va_S A s.heap H locs := by rw [hH, hlocs]; exact hS
  refine kx_gen hH hlocs ?_
  clear hH hlocs
  refine kx_nameQ (fun Q hQ => ?_)
  refine lv_sipush (v := nI 1608) hx hb dd_M_keep_0 (by decide) ?_
  refine lv_iload_n hx hb dd_M_keep_3 rfl (lv_at hl 2 rfl) ?_
  refine lv_iconst (v := nI 1) hx hb dd_M_keep_4 (by decide) ?_
  refine lv_iand hx hb dd_M_keep_5 ?_
  refine kx_toN (n := n % 2) (kn_and1 (by omega)) ?_
  refine kx_imul hx hb dd_M_keep_6 ?_
  refine lv_iconst (v := nI 4) hx hb dd_M_keep_7 (by decide) ?_
  refine lv_iload_n hx hb dd_M_keep_8 rfl (lv_at hl 1 rfl) ?_
  refine kx_imul hx hb dd_M_keep_9 ?_
  refine kx_iadd hx hb dd_M_keep_10 ?_
  refine lv_aload_n hx hb dd_M_keep_11 rfl (lv_at hl 0 rfl) ?_
  refine va_get (D := D) (ci := 0) (v := .int (nI lc)) (C := rr_M) (T := tt_M) (N := 37) hx hb hts hin0 hown hK hP 0 kg_6_0 rfl 23 (by decide) lk0 (fun _ h9 => h9) rfl dd_M_keep_12 ?_
  refine kx_iadd hx hb dd_M_keep_15 ?_
  have hat : 1608 * (n % 2) + 4 * j + lc < 3216 := by omega
  have hpl : 402 * n + j < 161604 := by omega
  refine lv_istore (lv' := [(9, .int (nI (((1608 * (n % 2)) + (4 * j)) + lc))), (0, .ref o), (1, .int (nI j)), (2, .int (nI n)), (3, .long oo), (5, .int ab), (6, .long dd), (8, .int (nI ft))]) hx hb dd_M_keep_16 hl (by decide) rfl (fun ls hl => ?_)
  refine lv_sipush (v := nI 402) hx hb dd_M_keep_18 (by decide) ?_
  refine lv_iload_n hx hb dd_M_keep_21 rfl (lv_at hl 3 rfl) ?_
  refine kx_imul hx hb dd_M_keep_22 ?_
  refine lv_iload_n hx hb dd_M_keep_23 rfl (lv_at hl 2 rfl) ?_
  refine kx_iadd hx hb dd_M_keep_24 ?_
  refine lv_istore (lv' := [(10, .int (nI ((402 * n) + j))), (9, .int (nI (((1608 * (n % 2)) + (4 * j)) + lc))), (0, .ref o), (1, .int (nI j)), (2, .int (nI n)), (3, .long oo), (5, .int ab), (6, .long dd), (8, .int (nI ft))]) hx hb dd_M_keep_25 hl (by decide) rfl (fun ls hl => ?_)
  refine lv_bipush (v := nI 16) hx hb dd_M_keep_27 (by decide) ?_
  refine lv_aload_n hx hb dd_M_keep_29 rfl (lv_at hl 2 rfl) ?_
  refine va_get (D := D) (ci := 0) (v := .int (nI lc)) (C := rr_M) (T := tt_M) (N := 37) hx hb hts hin0 hown hK hP 0 kg_6_0 rfl 23 (by decide) lk0 (fun _ h9 => h9) rfl dd_M_keep_30 ?_
  refine kx_imul hx hb dd_M_keep_33 ?_
  refine lv_istore (lv' := [(11, .int (nI (16 * lc))), (10, .int (nI ((402 * n) + j))), (9, .int (nI (((1608 * (n % 2)) + (4 * j)) + lc))), (0, .ref o), (1, .int (nI j)), (2, .int (nI n)), (3, .long oo), (5, .int ab), (6, .long dd), (8, .int (nI ft))]) hx hb dd_M_keep_34 hl (by decide) rfl (fun ls hl => ?_)
  refine lv_aload_n hx hb dd_M_keep_36 rfl (lv_at hl 3 rfl) ?_
  refine va_get (D := D) (ci := 0) (v := .ref a9) (C := rr_M) (T := tt_M) (N := 37) hx hb hts hin0 hown hK hP 0 kg_6_0 rfl 14 (by decide) lk2 (fun _ h9 => h9) rfl dd_M_keep_37 ?_
  refine lv_iload hx hb dd_M_keep_40 (lv_at hl 2 rfl) ?_
  refine kx_zald (q0 := 1) (t0 := 2) hx hb dd_M_keep_42 hK hP kg_6_1 rfl (by omega) (by omega) ?_
  refine lv_if_eq (tgt := 189) hx hb dd_M_keep_43 (by decide) (fun c43 => ?_) (fun c43 => ?_)
  · skip
    refine lv_aload_n hx hb dd_M_keep_189 rfl (lv_at hl 3 rfl) ?_
    refine va_get (D := D) (ci := 0) (v := .ref a9) (C := rr_M) (T := tt_M) (N := 37) hx hb hts hin0 hown hK hP 0 kg_6_0 rfl 14 (by decide) lk2 (fun _ h9 => h9) rfl dd_M_keep_190 ?_
    refine lv_iload hx hb dd_M_keep_193 (lv_at hl 2 rfl) ?_
    refine lv_iconst (v := nI 1) hx hb dd_M_keep_195 (by decide) ?_
    refine kx_zast (q0 := 1) (t0 := 2) hx hb dd_M_keep_196 hK hP hD hS kg_6_1 rfl (by omega) (by omega) (by decide) (fun H locs hP hD hS => ?_)
    have hP : va_P D vwCl [(o, .inr (0, [.int (nI th), .int (nI cn), .ref a0, .ref a1, .ref a2, .ref a3, .ref a4, .ref a5, .int (nI mn), .ref a6, .ref a7, .int (nI ps), .int (nI bk), .ref a8, .ref a9, .ref a10, .ref a11, .ref a12, .ref a13, .ref a14, .ref a15, .int (nI kf), .int lb, .int (nI lc), .long lo, .int (nI el), .int (nI ec), .long eo, .int eb, .long ed, .int (nI mp), .int (nI ml), .long md, .long mo, .int mb, .ref a16, .ref a17])), (a9, .inl (cZ, 3216, .inl (upd iz (((1608 * (n % 2)) + (4 * j)) + lc) (nI 1)))), (a10, .inl (cJ, 3216, .inr (.inl ou))), (a11, .inl (cI, 3216, .inl ba)), (a12, .inl (cJ, 3216, .inr (.inl de))), (a13, .inl (cJ, 161604, .inr (.inl bc)))] H := kx_cP kz_6_1 hP
    have hD : va_D A [(o, .inr (0, [.int (nI th), .int (nI cn), .ref a0, .ref a1, .ref a2, .ref a3, .ref a4, .ref a5, .int (nI mn), .ref a6, .ref a7, .int (nI ps), .int (nI bk), .ref a8, .ref a9, .ref a10, .ref a11, .ref a12, .ref a13, .ref a14, .ref a15, .int (nI kf), .int lb, .int (nI lc), .long lo, .int (nI el), .int (nI ec), .long eo, .int eb, .long ed, .int (nI mp), .int (nI ml), .long md, .long mo, .int mb, .ref a16, .ref a17])), (a9, .inl (cZ, 3216, .inl (upd iz (((1608 * (n % 2)) + (4 * j)) + lc) (nI 1)))), (a10, .inl (cJ, 3216, .inr (.inl ou))), (a11, .inl (cI, 3216, .inl ba)), (a12, .inl (cJ, 3216, .inr (.inl de))), (a13, .inl (cJ, 161604, .inr (.inl bc)))] := kx_cD kz_6_1 hD
    refine lv_aload_n hx hb dd_M_keep_197 rfl (lv_at hl 3 rfl) ?_
    refine va_get (D := D) (ci := 0) (v := .ref a10) (C := rr_M) (T := tt_M) (N := 37) hx hb hts hin0 hown hK hP 0 kg_6_0 rfl 15 (by decide) lk3 (fun _ h9 => h9) rfl dd_M_keep_198 ?_
    refine lv_iload hx hb dd_M_keep_201 (lv_at hl 2 rfl) ?_
    refine lv_lload_n hx hb dd_M_keep_203 rfl (lv_at hl 6 rfl) ?_
    refine kx_last (q0 := 2) (t0 := 1) hx hb dd_M_keep_204 hK hP hD hS kg_6_2 rfl (by omega) (by omega) (fun H locs hP hD hS => ?_)
    have hP : va_P D vwCl [(o, .inr (0, [.int (nI th), .int (nI cn), .ref a0, .ref a1, .ref a2, .ref a3, .ref a4, .ref a5, .int (nI mn), .ref a6, .ref a7, .int (nI ps), .int (nI bk), .ref a8, .ref a9, .ref a10, .ref a11, .ref a12, .ref a13, .ref a14, .ref a15, .int (nI kf), .int lb, .int (nI lc), .long lo, .int (nI el), .int (nI ec), .long eo, .int eb, .long ed, .int (nI mp), .int (nI ml), .long md, .long mo, .int mb, .ref a16, .ref a17])), (a9, .inl (cZ, 3216, .inl (upd iz (((1608 * (n % 2)) + (4 * j)) + lc) (nI 1)))), (a10, .inl (cJ, 3216, .inr (.inl (vp_updL ou (((1608 * (n % 2)) + (4 * j)) + lc) oo)))), (a11, .inl (cI, 3216, .inl ba)), (a12, .inl (cJ, 3216, .inr (.inl de))), (a13, .inl (cJ, 161604, .inr (.inl bc)))] H := kx_cP kz_6_2 hP
    have hD : va_D A [(o, .inr (0, [.int (nI th), .int (nI cn), .ref a0, .ref a1, .ref a2, .ref a3, .ref a4, .ref a5, .int (nI mn), .ref a6, .ref a7, .int (nI ps), .int (nI bk), .ref a8, .ref a9, .ref a10, .ref a11, .ref a12, .ref a13, .ref a14, .ref a15, .int (nI kf), .int lb, .int (nI lc), .long lo, .int (nI el), .int (nI ec), .long eo, .int eb, .long ed, .int (nI mp), .int (nI ml), .long md, .long mo, .int mb, .ref a16, .ref a17])), (a9, .inl (cZ, 3216, .inl (upd iz (((1608 * (n % 2)) + (4 * j)) + lc) (nI 1)))), (a10, .inl (cJ, 3216, .inr (.inl (vp_updL ou (((1608 * (n % 2)) + (4 * j)) + lc) oo)))), (a11, .inl (cI, 3216, .inl ba)), (a12, .inl (cJ, 3216, .inr (.inl de))), (a13, .inl (cJ, 161604, .inr (.inl bc)))] := kx_cD kz_6_2 hD
    refine lv_aload_n hx hb dd_M_keep_205 rfl (lv_at hl 3 rfl) ?_
    refine va_get (D := D) (ci := 0) (v := .ref a11) (C := rr_M) (T := tt_M) (N := 37) hx hb hts hin0 hown hK hP 0 kg_6_0 rfl 16 (by decide) lk4 (fun _ h9 => h9) rfl dd_M_keep_206 ?_
    refine lv_iload hx hb dd_M_keep_209 (lv_at hl 2 rfl) ?_
    refine lv_iload hx hb dd_M_keep_211 (lv_at hl 7 rfl) ?_
    refine kx_iast (q0 := 3) (t0 := 0) hx hb dd_M_keep_213 hK hP hD hS kg_6_3 rfl (by omega) (by omega) (fun H locs hP hD hS => ?_)
    have hP : va_P D vwCl [(o, .inr (0, [.int (nI th), .int (nI cn), .ref a0, .ref a1, .ref a2, .ref a3, .ref a4, .ref a5, .int (nI mn), .ref a6, .ref a7, .int (nI ps), .int (nI bk), .ref a8, .ref a9, .ref a10, .ref a11, .ref a12, .ref a13, .ref a14, .ref a15, .int (nI kf), .int lb, .int (nI lc), .long lo, .int (nI el), .int (nI ec), .long eo, .int eb, .long ed, .int (nI mp), .int (nI ml), .long md, .long mo, .int mb, .ref a16, .ref a17])), (a9, .inl (cZ, 3216, .inl (upd iz (((1608 * (n % 2)) + (4 * j)) + lc) (nI 1)))), (a10, .inl (cJ, 3216, .inr (.inl (vp_updL ou (((1608 * (n % 2)) + (4 * j)) + lc) oo)))), (a11, .inl (cI, 3216, .inl (upd ba (((1608 * (n % 2)) + (4 * j)) + lc) ab))), (a12, .inl (cJ, 3216, .inr (.inl de))), (a13, .inl (cJ, 161604, .inr (.inl bc)))] H := kx_cP kz_6_3 hP
    have hD : va_D A [(o, .inr (0, [.int (nI th), .int (nI cn), .ref a0, .ref a1, .ref a2, .ref a3, .ref a4, .ref a5, .int (nI mn), .ref a6, .ref a7, .int (nI ps), .int (nI bk), .ref a8, .ref a9, .ref a10, .ref a11, .ref a12, .ref a13, .ref a14, .ref a15, .int (nI kf), .int lb, .int (nI lc), .long lo, .int (nI el), .int (nI ec), .long eo, .int eb, .long ed, .int (nI mp), .int (nI ml), .long md, .long mo, .int mb, .ref a16, .ref a17])), (a9, .inl (cZ, 3216, .inl (upd iz (((1608 * (n % 2)) + (4 * j)) + lc) (nI 1)))), (a10, .inl (cJ, 3216, .inr (.inl (vp_updL ou (((1608 * (n % 2)) + (4 * j)) + lc) oo)))), (a11, .inl (cI, 3216, .inl (upd ba (((1608 * (n % 2)) + (4 * j)) + lc) ab))), (a12, .inl (cJ, 3216, .inr (.inl de))), (a13, .inl (cJ, 161604, .inr (.inl bc)))] := kx_cD kz_6_3 hD
    refine lv_aload_n hx hb dd_M_keep_214 rfl (lv_at hl 3 rfl) ?_
    refine va_get (D := D) (ci := 0) (v := .ref a12) (C := rr_M) (T := tt_M) (N := 37) hx hb hts hin0 hown hK hP 0 kg_6_0 rfl 17 (by decide) lk5 (fun _ h9 => h9) rfl dd_M_keep_215 ?_
    refine lv_iload hx hb dd_M_keep_218 (lv_at hl 2 rfl) ?_
    refine lv_lload hx hb dd_M_keep_220 (lv_at hl 8 rfl) ?_
    refine kx_last (q0 := 4) (t0 := 1) hx hb dd_M_keep_222 hK hP hD hS kg_6_4 rfl (by omega) (by omega) (fun H locs hP hD hS => ?_)
    have hP : va_P D vwCl [(o, .inr (0, [.int (nI th), .int (nI cn), .ref a0, .ref a1, .ref a2, .ref a3, .ref a4, .ref a5, .int (nI mn), .ref a6, .ref a7, .int (nI ps), .int (nI bk), .ref a8, .ref a9, .ref a10, .ref a11, .ref a12, .ref a13, .ref a14, .ref a15, .int (nI kf), .int lb, .int (nI lc), .long lo, .int (nI el), .int (nI ec), .long eo, .int eb, .long ed, .int (nI mp), .int (nI ml), .long md, .long mo, .int mb, .ref a16, .ref a17])), (a9, .inl (cZ, 3216, .inl (upd iz (((1608 * (n % 2)) + (4 * j)) + lc) (nI 1)))), (a10, .inl (cJ, 3216, .inr (.inl (vp_updL ou (((1608 * (n % 2)) + (4 * j)) + lc) oo)))), (a11, .inl (cI, 3216, .inl (upd ba (((1608 * (n % 2)) + (4 * j)) + lc) ab))), (a12, .inl (cJ, 3216, .inr (.inl (vp_updL de (((1608 * (n % 2)) + (4 * j)) + lc) dd)))), (a13, .inl (cJ, 161604, .inr (.inl bc)))] H := kx_cP kz_6_4 hP
    have hD : va_D A [(o, .inr (0, [.int (nI th), .int (nI cn), .ref a0, .ref a1, .ref a2, .ref a3, .ref a4, .ref a5, .int (nI mn), .ref a6, .ref a7, .int (nI ps), .int (nI bk), .ref a8, .ref a9, .ref a10, .ref a11, .ref a12, .ref a13, .ref a14, .ref a15, .int (nI kf), .int lb, .int (nI lc), .long lo, .int (nI el), .int (nI ec), .long eo, .int eb, .long ed, .int (nI mp), .int (nI ml), .long md, .long mo, .int mb, .ref a16, .ref a17])), (a9, .inl (cZ, 3216, .inl (upd iz (((1608 * (n % 2)) + (4 * j)) + lc) (nI 1)))), (a10, .inl (cJ, 3216, .inr (.inl (vp_updL ou (((1608 * (n % 2)) + (4 * j)) + lc) oo)))), (a11, .inl (cI, 3216, .inl (upd ba (((1608 * (n % 2)) + (4 * j)) + lc) ab))), (a12, .inl (cJ, 3216, .inr (.inl (vp_updL de (((1608 * (n % 2)) + (4 * j)) + lc) dd)))), (a13, .inl (cJ, 161604, .inr (.inl bc)))] := kx_cD kz_6_4 hD
    refine lv_aload_n hx hb dd_M_keep_223 rfl (lv_at hl 3 rfl) ?_
    refine va_get (D := D) (ci := 0) (v := .ref a13) (C := rr_M) (T := tt_M) (N := 37) hx hb hts hin0 hown hK hP 0 kg_6_0 rfl 18 (by decide) lk6 (fun _ h9 => h9) rfl dd_M_keep_224 ?_
    refine lv_iload hx hb dd_M_keep_227 (lv_at hl 1 rfl) ?_
    refine lv_aload_n hx hb dd_M_keep_229 rfl (lv_at hl 3 rfl) ?_
    refine va_get (D := D) (ci := 0) (v := .ref a13) (C := rr_M) (T := tt_M) (N := 37) hx hb hts hin0 hown hK hP 0 kg_6_0 rfl 18 (by decide) lk6 (fun _ h9 => h9) rfl dd_M_keep_230 ?_
    refine lv_iload hx hb dd_M_keep_233 (lv_at hl 1 rfl) ?_
    refine kx_lald (q0 := 5) (t0 := 1) hx hb dd_M_keep_235 hK hP kg_6_5 rfl (by omega) (by omega) ?_
    refine lv_ldc2 (v := (65535)) hx hb hown lk7 dd_M_keep_236 ?_
    refine lv_iload hx hb dd_M_keep_239 (lv_at hl 0 rfl) ?_
    refine lv_lshl hx hb dd_M_keep_241 rfl ?_
    refine lv_ldc2 (v := (-1)) hx hb hown lk8 dd_M_keep_242 ?_
    refine lv_lxor hx hb dd_M_keep_245 ?_
    refine lv_land hx hb dd_M_keep_246 ?_
    refine lv_iload hx hb dd_M_keep_247 (lv_at hl 9 rfl) ?_
    refine lv_i2l hx hb dd_M_keep_249 rfl ?_
    refine lv_iload hx hb dd_M_keep_250 (lv_at hl 0 rfl) ?_
    refine lv_lshl hx hb dd_M_keep_252 rfl ?_
    refine lv_lor hx hb dd_M_keep_253 ?_
    refine kx_last (q0 := 5) (t0 := 1) hx hb dd_M_keep_254 hK hP hD hS kg_6_5 rfl (by omega) (by omega) (fun H locs hP hD hS => ?_)
    have hP : va_P D vwCl [(o, .inr (0, [.int (nI th), .int (nI cn), .ref a0, .ref a1, .ref a2, .ref a3, .ref a4, .ref a5, .int (nI mn), .ref a6, .ref a7, .int (nI ps), .int (nI bk), .ref a8, .ref a9, .ref a10, .ref a11, .ref a12, .ref a13, .ref a14, .ref a15, .int (nI kf), .int lb, .int (nI lc), .long lo, .int (nI el), .int (nI ec), .long eo, .int eb, .long ed, .int (nI mp), .int (nI ml), .long md, .long mo, .int mb, .ref a16, .ref a17])), (a9, .inl (cZ, 3216, .inl (upd iz (((1608 * (n % 2)) + (4 * j)) + lc) (nI 1)))), (a10, .inl (cJ, 3216, .inr (.inl (vp_updL ou (((1608 * (n % 2)) + (4 * j)) + lc) oo)))), (a11, .inl (cI, 3216, .inl (upd ba (((1608 * (n % 2)) + (4 * j)) + lc) ab))), (a12, .inl (cJ, 3216, .inr (.inl (vp_updL de (((1608 * (n % 2)) + (4 * j)) + lc) dd)))), (a13, .inl (cJ, 161604, .inr (.inl (vp_updL bc ((402 * n) + j) (((bc ((402 * n) + j)) &&& (((65535 : Int64) <<< ((nI (16 * lc)).toInt64 &&& 63)) ^^^ (-1 : Int64))) ||| (((nI ft).toInt64) <<< ((nI (16 * lc)).toInt64 &&& 63)))))))] H := kx_cP kz_6_5 hP
    have hD : va_D A [(o, .inr (0, [.int (nI th), .int (nI cn), .ref a0, .ref a1, .ref a2, .ref a3, .ref a4, .ref a5, .int (nI mn), .ref a6, .ref a7, .int (nI ps), .int (nI bk), .ref a8, .ref a9, .ref a10, .ref a11, .ref a12, .ref a13, .ref a14, .ref a15, .int (nI kf), .int lb, .int (nI lc), .long lo, .int (nI el), .int (nI ec), .long eo, .int eb, .long ed, .int (nI mp), .int (nI ml), .long md, .long mo, .int mb, .ref a16, .ref a17])), (a9, .inl (cZ, 3216, .inl (upd iz (((1608 * (n % 2)) + (4 * j)) + lc) (nI 1)))), (a10, .inl (cJ, 3216, .inr (.inl (vp_updL ou (((1608 * (n % 2)) + (4 * j)) + lc) oo)))), (a11, .inl (cI, 3216, .inl (upd ba (((1608 * (n % 2)) + (4 * j)) + lc) ab))), (a12, .inl (cJ, 3216, .inr (.inl (vp_updL de (((1608 * (n % 2)) + (4 * j)) + lc) dd)))), (a13, .inl (cJ, 161604, .inr (.inl (vp_updL bc ((402 * n) + j) (((bc ((402 * n) + j)) &&& (((65535 : Int64) <<< ((nI (16 * lc)).toInt64 &&& 63)) ^^^ (-1 : Int64))) ||| (((nI ft).toInt64) <<< ((nI (16 * lc)).toInt64 &&& 63)))))))] := kx_cD kz_6_5 hD
    rw [hQ]
    exact kx_vret hx hb hr hlocks hK hN hS dd_M_keep_255 (upd iz (((1608 * (n % 2)) + (4 * j)) + lc) (nI 1), vp_updL ou (((1608 * (n % 2)) + (4 * j)) + lc) oo, upd ba (((1608 * (n % 2)) + (4 * j)) + lc) ab, vp_updL de (((1608 * (n % 2)) + (4 * j)) + lc) dd, (vp_updL bc ((402 * n) + j) (((bc ((402 * n) + j)) &&& (((65535 : Int64) <<< ((nI (16 * lc)).toInt64 &&& 63)) ^^^ (-1 : Int64))) ||| (((nI ft).toInt64) <<< ((nI (16 * lc)).toInt64 &&& 63))))) hP hD (by first | (refine Or.inl ⟨?_, rfl, rfl, rfl, rfl, rfl⟩; simp only [pm_nw, pm_bt, pm_bk, pm_at, pm_pc, c43, if_true, if_false, not_true, not_false_iff, true_or, or_true, or_false, false_or]; done) | (refine Or.inr ⟨?_, rfl, rfl, rfl, rfl, rfl⟩; simp only [pm_nw, pm_bt, pm_bk, pm_at, pm_pc, c43, if_true, if_false, not_true, not_false_iff, true_or, or_true, or_false, false_or]; done))
  · skip
    refine lv_aload_n hx hb dd_M_keep_46 rfl (lv_at hl 3 rfl) ?_
    refine va_get (D := D) (ci := 0) (v := .ref a13) (C := rr_M) (T := tt_M) (N := 37) hx hb hts hin0 hown hK hP 0 kg_6_0 rfl 18 (by decide) lk6 (fun _ h9 => h9) rfl dd_M_keep_47 ?_
    refine lv_iload hx hb dd_M_keep_50 (lv_at hl 1 rfl) ?_
    refine kx_lald (q0 := 5) (t0 := 1) hx hb dd_M_keep_52 hK hP kg_6_5 rfl (by omega) (by omega) ?_
    refine lv_iload hx hb dd_M_keep_53 (lv_at hl 0 rfl) ?_
    refine lv_lshr hx hb dd_M_keep_55 rfl ?_
    refine lv_ldc2 (v := (65535)) hx hb hown lk7 dd_M_keep_56 ?_
    refine lv_land hx hb dd_M_keep_59 ?_
    refine lv_l2i hx hb dd_M_keep_60 rfl ?_
    refine lv_istore (lv' := [(12, .int ((((bc ((402 * n) + j)) >>> ((nI (16 * lc)).toInt64 &&& 63)) &&& (65535 : Int64)).toInt32)), (11, .int (nI (16 * lc))), (10, .int (nI ((402 * n) + j))), (9, .int (nI (((1608 * (n % 2)) + (4 * j)) + lc))), (0, .ref o), (1, .int (nI j)), (2, .int (nI n)), (3, .long oo), (5, .int ab), (6, .long dd), (8, .int (nI ft))]) hx hb dd_M_keep_61 hl (by decide) rfl (fun ls hl => ?_)
    refine lv_lload_n hx hb dd_M_keep_63 rfl (lv_at hl 7 rfl) ?_
    refine lv_aload_n hx hb dd_M_keep_64 rfl (lv_at hl 4 rfl) ?_
    refine va_get (D := D) (ci := 0) (v := .ref a10) (C := rr_M) (T := tt_M) (N := 37) hx hb hts hin0 hown hK hP 0 kg_6_0 rfl 15 (by decide) lk3 (fun _ h9 => h9) rfl dd_M_keep_65 ?_
    refine lv_iload hx hb dd_M_keep_68 (lv_at hl 3 rfl) ?_
    refine kx_lald (q0 := 2) (t0 := 1) hx hb dd_M_keep_70 hK hP kg_6_2 rfl (by omega) (by omega) ?_
    refine W.lcmp hx hb dd_M_keep_71 ?_
    refine lv_if_eq (tgt := 95) hx hb dd_M_keep_72 (by decide) (fun c72 => ?_) (fun c72 => ?_)
    · skip
      have c72 := (lg_cmp_eq _ _).mp c72
      refine lv_aload_n hx hb dd_M_keep_95 rfl (lv_at hl 4 rfl) ?_
      refine va_get (D := D) (ci := 0) (v := .int (nI ps)) (C := rr_M) (T := tt_M) (N := 37) hx hb hts hin0 hown hK hP 0 kg_6_0 rfl 11 (by decide) lk9 (fun _ h9 => h9) rfl dd_M_keep_96 ?_
      refine lv_iconst (v := nI 3) hx hb dd_M_keep_99 (by decide) ?_
      refine lv_icmp_ne (tgt := 135) hx hb dd_M_keep_100 (by decide) (fun c100 => ?_) (fun c100 => ?_)
      · skip
        have c100 : ¬ (ps = 3) := fun h => c100 ((nI_eq (by omega) (by omega)).mpr h)
        refine lv_lload hx hb dd_M_keep_135 (lv_at hl 9 rfl) ?_
        refine lv_aload_n hx hb dd_M_keep_137 rfl (lv_at hl 4 rfl) ?_
        refine va_get (D := D) (ci := 0) (v := .ref a12) (C := rr_M) (T := tt_M) (N := 37) hx hb hts hin0 hown hK hP 0 kg_6_0 rfl 17 (by decide) lk5 (fun _ h9 => h9) rfl dd_M_keep_138 ?_
        refine lv_iload hx hb dd_M_keep_141 (lv_at hl 3 rfl) ?_
        refine kx_lald (q0 := 4) (t0 := 1) hx hb dd_M_keep_143 hK hP kg_6_4 rfl (by omega) (by omega) ?_
        refine W.lcmp hx hb dd_M_keep_144 ?_
        refine lv_if_eq (tgt := 169) hx hb dd_M_keep_145 (by decide) (fun c145 => ?_) (fun c145 => ?_)
        · skip
          have c145 := (lg_cmp_eq _ _).mp c145
          refine lv_iload hx hb dd_M_keep_169 (lv_at hl 10 rfl) ?_
          refine lv_iload hx hb dd_M_keep_171 (lv_at hl 0 rfl) ?_
          refine lv_icmp_ge (tgt := 180) hx hb dd_M_keep_173 (by decide) (fun c173 => ?_) (fun c173 => ?_)
          · skip
            refine lv_iconst (v := nI 0) hx hb dd_M_keep_180 (by decide) ?_
            refine lv_istore (lv' := [(13, .int (nI 0)), (12, .int ((((bc ((402 * n) + j)) >>> ((nI (16 * lc)).toInt64 &&& 63)) &&& (65535 : Int64)).toInt32)), (11, .int (nI (16 * lc))), (10, .int (nI ((402 * n) + j))), (9, .int (nI (((1608 * (n % 2)) + (4 * j)) + lc))), (0, .ref o), (1, .int (nI j)), (2, .int (nI n)), (3, .long oo), (5, .int ab), (6, .long dd), (8, .int (nI ft))]) hx hb dd_M_keep_181 hl (by decide) rfl (fun ls hl => ?_)
            refine lv_iload hx hb dd_M_keep_183 (lv_at hl 0 rfl) ?_
            refine lv_if_ne (tgt := 189) hx hb dd_M_keep_185 (by decide) (fun h => absurd (by decide +kernel) h) (fun _ => ?_)
            rw [hQ]
            exact kx_vret hx hb hr hlocks hK hN hS dd_M_keep_188 (iz, ou, ba, de, bc) hP hD (by first | (refine Or.inl ⟨?_, rfl, rfl, rfl, rfl, rfl⟩; simp only [pm_nw, pm_bt, pm_bk, pm_at, pm_pc, c43, c72, c100, c145, c173, if_true, if_false, not_true, not_false_iff, true_or, or_true, or_false, false_or]; done) | (refine Or.inr ⟨?_, rfl, rfl, rfl, rfl, rfl⟩; simp only [pm_nw, pm_bt, pm_bk, pm_at, pm_pc, c43, c72, c100, c145, c173, if_true, if_false, not_true, not_false_iff, true_or, or_true, or_false, false_or]; done))
          · skip
            refine lv_iconst (v := nI 1) hx hb dd_M_keep_176 (by decide) ?_
            refine lv_goto (tgt := 181) hx hb dd_M_keep_177 (by decide) ?_
            refine lv_istore (lv' := [(13, .int (nI 1)), (12, .int ((((bc ((402 * n) + j)) >>> ((nI (16 * lc)).toInt64 &&& 63)) &&& (65535 : Int64)).toInt32)), (11, .int (nI (16 * lc))), (10, .int (nI ((402 * n) + j))), (9, .int (nI (((1608 * (n % 2)) + (4 * j)) + lc))), (0, .ref o), (1, .int (nI j)), (2, .int (nI n)), (3, .long oo), (5, .int ab), (6, .long dd), (8, .int (nI ft))]) hx hb dd_M_keep_181 hl (by decide) rfl (fun ls hl => ?_)
            refine lv_iload hx hb dd_M_keep_183 (lv_at hl 0 rfl) ?_
            refine lv_if_ne (tgt := 189) hx hb dd_M_keep_185 (by decide) (fun _ => ?_) (fun h => absurd h (by decide +kernel))
            refine lv_aload_n hx hb dd_M_keep_189 rfl (lv_at hl 5 rfl) ?_
            refine va_get (D := D) (ci := 0) (v := .ref a9) (C := rr_M) (T := tt_M) (N := 37) hx hb hts hin0 hown hK hP 0 kg_6_0 rfl 14 (by decide) lk2 (fun _ h9 => h9) rfl dd_M_keep_190 ?_
            refine lv_iload hx hb dd_M_keep_193 (lv_at hl 4 rfl) ?_
            refine lv_iconst (v := nI 1) hx hb dd_M_keep_195 (by decide) ?_
            refine kx_zast (q0 := 1) (t0 := 2) hx hb dd_M_keep_196 hK hP hD hS kg_6_1 rfl (by omega) (by omega) (by decide) (fun H locs hP hD hS => ?_)
            have hP : va_P D vwCl [(o, .inr (0, [.int (nI th), .int (nI cn), .ref a0, .ref a1, .ref a2, .ref a3, .ref a4, .ref a5, .int (nI mn), .ref a6, .ref a7, .int (nI ps), .int (nI bk), .ref a8, .ref a9, .ref a10, .ref a11, .ref a12, .ref a13, .ref a14, .ref a15, .int (nI kf), .int lb, .int (nI lc), .long lo, .int (nI el), .int (nI ec), .long eo, .int eb, .long ed, .int (nI mp), .int (nI ml), .long md, .long mo, .int mb, .ref a16, .ref a17])), (a9, .inl (cZ, 3216, .inl (upd iz (((1608 * (n % 2)) + (4 * j)) + lc) (nI 1)))), (a10, .inl (cJ, 3216, .inr (.inl ou))), (a11, .inl (cI, 3216, .inl ba)), (a12, .inl (cJ, 3216, .inr (.inl de))), (a13, .inl (cJ, 161604, .inr (.inl bc)))] H := kx_cP kz_6_1 hP
            have hD : va_D A [(o, .inr (0, [.int (nI th), .int (nI cn), .ref a0, .ref a1, .ref a2, .ref a3, .ref a4, .ref a5, .int (nI mn), .ref a6, .ref a7, .int (nI ps), .int (nI bk), .ref a8, .ref a9, .ref a10, .ref a11, .ref a12, .ref a13, .ref a14, .ref a15, .int (nI kf), .int lb, .int (nI lc), .long lo, .int (nI el), .int (nI ec), .long eo, .int eb, .long ed, .int (nI mp), .int (nI ml), .long md, .long mo, .int mb, .ref a16, .ref a17])), (a9, .inl (cZ, 3216, .inl (upd iz (((1608 * (n % 2)) + (4 * j)) + lc) (nI 1)))), (a10, .inl (cJ, 3216, .inr (.inl ou))), (a11, .inl (cI, 3216, .inl ba)), (a12, .inl (cJ, 3216, .inr (.inl de))), (a13, .inl (cJ, 161604, .inr (.inl bc)))] := kx_cD kz_6_1 hD
            refine lv_aload_n hx hb dd_M_keep_197 rfl (lv_at hl 5 rfl) ?_
            refine va_get (D := D) (ci := 0) (v := .ref a10) (C := rr_M) (T := tt_M) (N := 37) hx hb hts hin0 hown hK hP 0 kg_6_0 rfl 15 (by decide) lk3 (fun _ h9 => h9) rfl dd_M_keep_198 ?_
            refine lv_iload hx hb dd_M_keep_201 (lv_at hl 4 rfl) ?_
            refine lv_lload_n hx hb dd_M_keep_203 rfl (lv_at hl 8 rfl) ?_
            refine kx_last (q0 := 2) (t0 := 1) hx hb dd_M_keep_204 hK hP hD hS kg_6_2 rfl (by omega) (by omega) (fun H locs hP hD hS => ?_)
            have hP : va_P D vwCl [(o, .inr (0, [.int (nI th), .int (nI cn), .ref a0, .ref a1, .ref a2, .ref a3, .ref a4, .ref a5, .int (nI mn), .ref a6, .ref a7, .int (nI ps), .int (nI bk), .ref a8, .ref a9, .ref a10, .ref a11, .ref a12, .ref a13, .ref a14, .ref a15, .int (nI kf), .int lb, .int (nI lc), .long lo, .int (nI el), .int (nI ec), .long eo, .int eb, .long ed, .int (nI mp), .int (nI ml), .long md, .long mo, .int mb, .ref a16, .ref a17])), (a9, .inl (cZ, 3216, .inl (upd iz (((1608 * (n % 2)) + (4 * j)) + lc) (nI 1)))), (a10, .inl (cJ, 3216, .inr (.inl (vp_updL ou (((1608 * (n % 2)) + (4 * j)) + lc) oo)))), (a11, .inl (cI, 3216, .inl ba)), (a12, .inl (cJ, 3216, .inr (.inl de))), (a13, .inl (cJ, 161604, .inr (.inl bc)))] H := kx_cP kz_6_2 hP
            have hD : va_D A [(o, .inr (0, [.int (nI th), .int (nI cn), .ref a0, .ref a1, .ref a2, .ref a3, .ref a4, .ref a5, .int (nI mn), .ref a6, .ref a7, .int (nI ps), .int (nI bk), .ref a8, .ref a9, .ref a10, .ref a11, .ref a12, .ref a13, .ref a14, .ref a15, .int (nI kf), .int lb, .int (nI lc), .long lo, .int (nI el), .int (nI ec), .long eo, .int eb, .long ed, .int (nI mp), .int (nI ml), .long md, .long mo, .int mb, .ref a16, .ref a17])), (a9, .inl (cZ, 3216, .inl (upd iz (((1608 * (n % 2)) + (4 * j)) + lc) (nI 1)))), (a10, .inl (cJ, 3216, .inr (.inl (vp_updL ou (((1608 * (n % 2)) + (4 * j)) + lc) oo)))), (a11, .inl (cI, 3216, .inl ba)), (a12, .inl (cJ, 3216, .inr (.inl de))), (a13, .inl (cJ, 161604, .inr (.inl bc)))] := kx_cD kz_6_2 hD
            refine lv_aload_n hx hb dd_M_keep_205 rfl (lv_at hl 5 rfl) ?_
            refine va_get (D := D) (ci := 0) (v := .ref a11) (C := rr_M) (T := tt_M) (N := 37) hx hb hts hin0 hown hK hP 0 kg_6_0 rfl 16 (by decide) lk4 (fun _ h9 => h9) rfl dd_M_keep_206 ?_
            refine lv_iload hx hb dd_M_keep_209 (lv_at hl 4 rfl) ?_
            refine lv_iload hx hb dd_M_keep_211 (lv_at hl 9 rfl) ?_
            refine kx_iast (q0 := 3) (t0 := 0) hx hb dd_M_keep_213 hK hP hD hS kg_6_3 rfl (by omega) (by omega) (fun H locs hP hD hS => ?_)
            have hP : va_P D vwCl [(o, .inr (0, [.int (nI th), .int (nI cn), .ref a0, .ref a1, .ref a2, .ref a3, .ref a4, .ref a5, .int (nI mn), .ref a6, .ref a7, .int (nI ps), .int (nI bk), .ref a8, .ref a9, .ref a10, .ref a11, .ref a12, .ref a13, .ref a14, .ref a15, .int (nI kf), .int lb, .int (nI lc), .long lo, .int (nI el), .int (nI ec), .long eo, .int eb, .long ed, .int (nI mp), .int (nI ml), .long md, .long mo, .int mb, .ref a16, .ref a17])), (a9, .inl (cZ, 3216, .inl (upd iz (((1608 * (n % 2)) + (4 * j)) + lc) (nI 1)))), (a10, .inl (cJ, 3216, .inr (.inl (vp_updL ou (((1608 * (n % 2)) + (4 * j)) + lc) oo)))), (a11, .inl (cI, 3216, .inl (upd ba (((1608 * (n % 2)) + (4 * j)) + lc) ab))), (a12, .inl (cJ, 3216, .inr (.inl de))), (a13, .inl (cJ, 161604, .inr (.inl bc)))] H := kx_cP kz_6_3 hP
            have hD : va_D A [(o, .inr (0, [.int (nI th), .int (nI cn), .ref a0, .ref a1, .ref a2, .ref a3, .ref a4, .ref a5, .int (nI mn), .ref a6, .ref a7, .int (nI ps), .int (nI bk), .ref a8, .ref a9, .ref a10, .ref a11, .ref a12, .ref a13, .ref a14, .ref a15, .int (nI kf), .int lb, .int (nI lc), .long lo, .int (nI el), .int (nI ec), .long eo, .int eb, .long ed, .int (nI mp), .int (nI ml), .long md, .long mo, .int mb, .ref a16, .ref a17])), (a9, .inl (cZ, 3216, .inl (upd iz (((1608 * (n % 2)) + (4 * j)) + lc) (nI 1)))), (a10, .inl (cJ, 3216, .inr (.inl (vp_updL ou (((1608 * (n % 2)) + (4 * j)) + lc) oo)))), (a11, .inl (cI, 3216, .inl (upd ba (((1608 * (n % 2)) + (4 * j)) + lc) ab))), (a12, .inl (cJ, 3216, .inr (.inl de))), (a13, .inl (cJ, 161604, .inr (.inl bc)))] := kx_cD kz_6_3 hD
            refine lv_aload_n hx hb dd_M_keep_214 rfl (lv_at hl 5 rfl) ?_
            refine va_get (D := D) (ci := 0) (v := .ref a12) (C := rr_M) (T := tt_M) (N := 37) hx hb hts hin0 hown hK hP 0 kg_6_0 rfl 17 (by decide) lk5 (fun _ h9 => h9) rfl dd_M_keep_215 ?_
            refine lv_iload hx hb dd_M_keep_218 (lv_at hl 4 rfl) ?_
            refine lv_lload hx hb dd_M_keep_220 (lv_at hl 10 rfl) ?_
            refine kx_last (q0 := 4) (t0 := 1) hx hb dd_M_keep_222 hK hP hD hS kg_6_4 rfl (by omega) (by omega) (fun H locs hP hD hS => ?_)
            have hP : va_P D vwCl [(o, .inr (0, [.int (nI th), .int (nI cn), .ref a0, .ref a1, .ref a2, .ref a3, .ref a4, .ref a5, .int (nI mn), .ref a6, .ref a7, .int (nI ps), .int (nI bk), .ref a8, .ref a9, .ref a10, .ref a11, .ref a12, .ref a13, .ref a14, .ref a15, .int (nI kf), .int lb, .int (nI lc), .long lo, .int (nI el), .int (nI ec), .long eo, .int eb, .long ed, .int (nI mp), .int (nI ml), .long md, .long mo, .int mb, .ref a16, .ref a17])), (a9, .inl (cZ, 3216, .inl (upd iz (((1608 * (n % 2)) + (4 * j)) + lc) (nI 1)))), (a10, .inl (cJ, 3216, .inr (.inl (vp_updL ou (((1608 * (n % 2)) + (4 * j)) + lc) oo)))), (a11, .inl (cI, 3216, .inl (upd ba (((1608 * (n % 2)) + (4 * j)) + lc) ab))), (a12, .inl (cJ, 3216, .inr (.inl (vp_updL de (((1608 * (n % 2)) + (4 * j)) + lc) dd)))), (a13, .inl (cJ, 161604, .inr (.inl bc)))] H := kx_cP kz_6_4 hP
            have hD : va_D A [(o, .inr (0, [.int (nI th), .int (nI cn), .ref a0, .ref a1, .ref a2, .ref a3, .ref a4, .ref a5, .int (nI mn), .ref a6, .ref a7, .int (nI ps), .int (nI bk), .ref a8, .ref a9, .ref a10, .ref a11, .ref a12, .ref a13, .ref a14, .ref a15, .int (nI kf), .int lb, .int (nI lc), .long lo, .int (nI el), .int (nI ec), .long eo, .int eb, .long ed, .int (nI mp), .int (nI ml), .long md, .long mo, .int mb, .ref a16, .ref a17])), (a9, .inl (cZ, 3216, .inl (upd iz (((1608 * (n % 2)) + (4 * j)) + lc) (nI 1)))), (a10, .inl (cJ, 3216, .inr (.inl (vp_updL ou (((1608 * (n % 2)) + (4 * j)) + lc) oo)))), (a11, .inl (cI, 3216, .inl (upd ba (((1608 * (n % 2)) + (4 * j)) + lc) ab))), (a12, .inl (cJ, 3216, .inr (.inl (vp_updL de (((1608 * (n % 2)) + (4 * j)) + lc) dd)))), (a13, .inl (cJ, 161604, .inr (.inl bc)))] := kx_cD kz_6_4 hD
            refine lv_aload_n hx hb dd_M_keep_223 rfl (lv_at hl 5 rfl) ?_
            refine va_get (D := D) (ci := 0) (v := .ref a13) (C := rr_M) (T := tt_M) (N := 37) hx hb hts hin0 hown hK hP 0 kg_6_0 rfl 18 (by decide) lk6 (fun _ h9 => h9) rfl dd_M_keep_224 ?_
            refine lv_iload hx hb dd_M_keep_227 (lv_at hl 3 rfl) ?_
            refine lv_aload_n hx hb dd_M_keep_229 rfl (lv_at hl 5 rfl) ?_
            refine va_get (D := D) (ci := 0) (v := .ref a13) (C := rr_M) (T := tt_M) (N := 37) hx hb hts hin0 hown hK hP 0 kg_6_0 rfl 18 (by decide) lk6 (fun _ h9 => h9) rfl dd_M_keep_230 ?_
            refine lv_iload hx hb dd_M_keep_233 (lv_at hl 3 rfl) ?_
            refine kx_lald (q0 := 5) (t0 := 1) hx hb dd_M_keep_235 hK hP kg_6_5 rfl (by omega) (by omega) ?_
            refine lv_ldc2 (v := (65535)) hx hb hown lk7 dd_M_keep_236 ?_
            refine lv_iload hx hb dd_M_keep_239 (lv_at hl 2 rfl) ?_
            refine lv_lshl hx hb dd_M_keep_241 rfl ?_
            refine lv_ldc2 (v := (-1)) hx hb hown lk8 dd_M_keep_242 ?_
            refine lv_lxor hx hb dd_M_keep_245 ?_
            refine lv_land hx hb dd_M_keep_246 ?_
            refine lv_iload hx hb dd_M_keep_247 (lv_at hl 11 rfl) ?_
            refine lv_i2l hx hb dd_M_keep_249 rfl ?_
            refine lv_iload hx hb dd_M_keep_250 (lv_at hl 2 rfl) ?_
            refine lv_lshl hx hb dd_M_keep_252 rfl ?_
            refine lv_lor hx hb dd_M_keep_253 ?_
            refine kx_last (q0 := 5) (t0 := 1) hx hb dd_M_keep_254 hK hP hD hS kg_6_5 rfl (by omega) (by omega) (fun H locs hP hD hS => ?_)
            have hP : va_P D vwCl [(o, .inr (0, [.int (nI th), .int (nI cn), .ref a0, .ref a1, .ref a2, .ref a3, .ref a4, .ref a5, .int (nI mn), .ref a6, .ref a7, .int (nI ps), .int (nI bk), .ref a8, .ref a9, .ref a10, .ref a11, .ref a12, .ref a13, .ref a14, .ref a15, .int (nI kf), .int lb, .int (nI lc), .long lo, .int (nI el), .int (nI ec), .long eo, .int eb, .long ed, .int (nI mp), .int (nI ml), .long md, .long mo, .int mb, .ref a16, .ref a17])), (a9, .inl (cZ, 3216, .inl (upd iz (((1608 * (n % 2)) + (4 * j)) + lc) (nI 1)))), (a10, .inl (cJ, 3216, .inr (.inl (vp_updL ou (((1608 * (n % 2)) + (4 * j)) + lc) oo)))), (a11, .inl (cI, 3216, .inl (upd ba (((1608 * (n % 2)) + (4 * j)) + lc) ab))), (a12, .inl (cJ, 3216, .inr (.inl (vp_updL de (((1608 * (n % 2)) + (4 * j)) + lc) dd)))), (a13, .inl (cJ, 161604, .inr (.inl (vp_updL bc ((402 * n) + j) (((bc ((402 * n) + j)) &&& (((65535 : Int64) <<< ((nI (16 * lc)).toInt64 &&& 63)) ^^^ (-1 : Int64))) ||| (((nI ft).toInt64) <<< ((nI (16 * lc)).toInt64 &&& 63)))))))] H := kx_cP kz_6_5 hP
            have hD : va_D A [(o, .inr (0, [.int (nI th), .int (nI cn), .ref a0, .ref a1, .ref a2, .ref a3, .ref a4, .ref a5, .int (nI mn), .ref a6, .ref a7, .int (nI ps), .int (nI bk), .ref a8, .ref a9, .ref a10, .ref a11, .ref a12, .ref a13, .ref a14, .ref a15, .int (nI kf), .int lb, .int (nI lc), .long lo, .int (nI el), .int (nI ec), .long eo, .int eb, .long ed, .int (nI mp), .int (nI ml), .long md, .long mo, .int mb, .ref a16, .ref a17])), (a9, .inl (cZ, 3216, .inl (upd iz (((1608 * (n % 2)) + (4 * j)) + lc) (nI 1)))), (a10, .inl (cJ, 3216, .inr (.inl (vp_updL ou (((1608 * (n % 2)) + (4 * j)) + lc) oo)))), (a11, .inl (cI, 3216, .inl (upd ba (((1608 * (n % 2)) + (4 * j)) + lc) ab))), (a12, .inl (cJ, 3216, .inr (.inl (vp_updL de (((1608 * (n % 2)) + (4 * j)) + lc) dd)))), (a13, .inl (cJ, 161604, .inr (.inl (vp_updL bc ((402 * n) + j) (((bc ((402 * n) + j)) &&& (((65535 : Int64) <<< ((nI (16 * lc)).toInt64 &&& 63)) ^^^ (-1 : Int64))) ||| (((nI ft).toInt64) <<< ((nI (16 * lc)).toInt64 &&& 63)))))))] := kx_cD kz_6_5 hD
            rw [hQ]
            exact kx_vret hx hb hr hlocks hK hN hS dd_M_keep_255 (upd iz (((1608 * (n % 2)) + (4 * j)) + lc) (nI 1), vp_updL ou (((1608 * (n % 2)) + (4 * j)) + lc) oo, upd ba (((1608 * (n % 2)) + (4 * j)) + lc) ab, vp_updL de (((1608 * (n % 2)) + (4 * j)) + lc) dd, (vp_updL bc ((402 * n) + j) (((bc ((402 * n) + j)) &&& (((65535 : Int64) <<< ((nI (16 * lc)).toInt64 &&& 63)) ^^^ (-1 : Int64))) ||| (((nI ft).toInt64) <<< ((nI (16 * lc)).toInt64 &&& 63))))) hP hD (by first | (refine Or.inl ⟨?_, rfl, rfl, rfl, rfl, rfl⟩; simp only [pm_nw, pm_bt, pm_bk, pm_at, pm_pc, c43, c72, c100, c145, c173, if_true, if_false, not_true, not_false_iff, true_or, or_true, or_false, false_or]; done) | (refine Or.inr ⟨?_, rfl, rfl, rfl, rfl, rfl⟩; simp only [pm_nw, pm_bt, pm_bk, pm_at, pm_pc, c43, c72, c100, c145, c173, if_true, if_false, not_true, not_false_iff, true_or, or_true, or_false, false_or]; done))
        · skip
          have c145 : ¬ (dd = (de (((1608 * (n % 2)) + (4 * j)) + lc))) := fun h => c145 ((lg_cmp_eq _ _).mpr h)
          refine lv_lload hx hb dd_M_keep_148 (lv_at hl 9 rfl) ?_
          refine lv_aload_n hx hb dd_M_keep_150 rfl (lv_at hl 4 rfl) ?_
          refine va_get (D := D) (ci := 0) (v := .ref a12) (C := rr_M) (T := tt_M) (N := 37) hx hb hts hin0 hown hK hP 0 kg_6_0 rfl 17 (by decide) lk5 (fun _ h9 => h9) rfl dd_M_keep_151 ?_
          refine lv_iload hx hb dd_M_keep_154 (lv_at hl 3 rfl) ?_
          refine kx_lald (q0 := 4) (t0 := 1) hx hb dd_M_keep_156 hK hP kg_6_4 rfl (by omega) (by omega) ?_
          refine W.lcmp hx hb dd_M_keep_157 ?_
          refine lv_if_ge (tgt := 165) hx hb dd_M_keep_158 (by decide) (fun c158 => ?_) (fun c158 => ?_)
          · skip
            have c158 := (lg_cmp_ge _ _).mp c158
            refine lv_iconst (v := nI 0) hx hb dd_M_keep_165 (by decide) ?_
            refine lv_goto (tgt := 181) hx hb dd_M_keep_166 (by decide) ?_
            refine lv_istore (lv' := [(13, .int (nI 0)), (12, .int ((((bc ((402 * n) + j)) >>> ((nI (16 * lc)).toInt64 &&& 63)) &&& (65535 : Int64)).toInt32)), (11, .int (nI (16 * lc))), (10, .int (nI ((402 * n) + j))), (9, .int (nI (((1608 * (n % 2)) + (4 * j)) + lc))), (0, .ref o), (1, .int (nI j)), (2, .int (nI n)), (3, .long oo), (5, .int ab), (6, .long dd), (8, .int (nI ft))]) hx hb dd_M_keep_181 hl (by decide) rfl (fun ls hl => ?_)
            refine lv_iload hx hb dd_M_keep_183 (lv_at hl 0 rfl) ?_
            refine lv_if_ne (tgt := 189) hx hb dd_M_keep_185 (by decide) (fun h => absurd (by decide +kernel) h) (fun _ => ?_)
            rw [hQ]
            exact kx_vret hx hb hr hlocks hK hN hS dd_M_keep_188 (iz, ou, ba, de, bc) hP hD (by first | (refine Or.inl ⟨?_, rfl, rfl, rfl, rfl, rfl⟩; simp only [pm_nw, pm_bt, pm_bk, pm_at, pm_pc, c43, c72, c100, c145, c158, if_true, if_false, not_true, not_false_iff, true_or, or_true, or_false, false_or]; done) | (refine Or.inr ⟨?_, rfl, rfl, rfl, rfl, rfl⟩; simp only [pm_nw, pm_bt, pm_bk, pm_at, pm_pc, c43, c72, c100, c145, c158, if_true, if_false, not_true, not_false_iff, true_or, or_true, or_false, false_or]; done))
          · skip
            have c158 : ¬ ((de (((1608 * (n % 2)) + (4 * j)) + lc)) ≤ dd) := fun h => c158 ((lg_cmp_ge _ _).mpr h)
            refine lv_iconst (v := nI 1) hx hb dd_M_keep_161 (by decide) ?_
            refine lv_goto (tgt := 181) hx hb dd_M_keep_162 (by decide) ?_
            refine lv_istore (lv' := [(13, .int (nI 1)), (12, .int ((((bc ((402 * n) + j)) >>> ((nI (16 * lc)).toInt64 &&& 63)) &&& (65535 : Int64)).toInt32)), (11, .int (nI (16 * lc))), (10, .int (nI ((402 * n) + j))), (9, .int (nI (((1608 * (n % 2)) + (4 * j)) + lc))), (0, .ref o), (1, .int (nI j)), (2, .int (nI n)), (3, .long oo), (5, .int ab), (6, .long dd), (8, .int (nI ft))]) hx hb dd_M_keep_181 hl (by decide) rfl (fun ls hl => ?_)
            refine lv_iload hx hb dd_M_keep_183 (lv_at hl 0 rfl) ?_
            refine lv_if_ne (tgt := 189) hx hb dd_M_keep_185 (by decide) (fun _ => ?_) (fun h => absurd h (by decide +kernel))
            refine lv_aload_n hx hb dd_M_keep_189 rfl (lv_at hl 5 rfl) ?_
            refine va_get (D := D) (ci := 0) (v := .ref a9) (C := rr_M) (T := tt_M) (N := 37) hx hb hts hin0 hown hK hP 0 kg_6_0 rfl 14 (by decide) lk2 (fun _ h9 => h9) rfl dd_M_keep_190 ?_
            refine lv_iload hx hb dd_M_keep_193 (lv_at hl 4 rfl) ?_
            refine lv_iconst (v := nI 1) hx hb dd_M_keep_195 (by decide) ?_
            refine kx_zast (q0 := 1) (t0 := 2) hx hb dd_M_keep_196 hK hP hD hS kg_6_1 rfl (by omega) (by omega) (by decide) (fun H locs hP hD hS => ?_)
            have hP : va_P D vwCl [(o, .inr (0, [.int (nI th), .int (nI cn), .ref a0, .ref a1, .ref a2, .ref a3, .ref a4, .ref a5, .int (nI mn), .ref a6, .ref a7, .int (nI ps), .int (nI bk), .ref a8, .ref a9, .ref a10, .ref a11, .ref a12, .ref a13, .ref a14, .ref a15, .int (nI kf), .int lb, .int (nI lc), .long lo, .int (nI el), .int (nI ec), .long eo, .int eb, .long ed, .int (nI mp), .int (nI ml), .long md, .long mo, .int mb, .ref a16, .ref a17])), (a9, .inl (cZ, 3216, .inl (upd iz (((1608 * (n % 2)) + (4 * j)) + lc) (nI 1)))), (a10, .inl (cJ, 3216, .inr (.inl ou))), (a11, .inl (cI, 3216, .inl ba)), (a12, .inl (cJ, 3216, .inr (.inl de))), (a13, .inl (cJ, 161604, .inr (.inl bc)))] H := kx_cP kz_6_1 hP
            have hD : va_D A [(o, .inr (0, [.int (nI th), .int (nI cn), .ref a0, .ref a1, .ref a2, .ref a3, .ref a4, .ref a5, .int (nI mn), .ref a6, .ref a7, .int (nI ps), .int (nI bk), .ref a8, .ref a9, .ref a10, .ref a11, .ref a12, .ref a13, .ref a14, .ref a15, .int (nI kf), .int lb, .int (nI lc), .long lo, .int (nI el), .int (nI ec), .long eo, .int eb, .long ed, .int (nI mp), .int (nI ml), .long md, .long mo, .int mb, .ref a16, .ref a17])), (a9, .inl (cZ, 3216, .inl (upd iz (((1608 * (n % 2)) + (4 * j)) + lc) (nI 1)))), (a10, .inl (cJ, 3216, .inr (.inl ou))), (a11, .inl (cI, 3216, .inl ba)), (a12, .inl (cJ, 3216, .inr (.inl de))), (a13, .inl (cJ, 161604, .inr (.inl bc)))] := kx_cD kz_6_1 hD
            refine lv_aload_n hx hb dd_M_keep_197 rfl (lv_at hl 5 rfl) ?_
            refine va_get (D := D) (ci := 0) (v := .ref a10) (C := rr_M) (T := tt_M) (N := 37) hx hb hts hin0 hown hK hP 0 kg_6_0 rfl 15 (by decide) lk3 (fun _ h9 => h9) rfl dd_M_keep_198 ?_
            refine lv_iload hx hb dd_M_keep_201 (lv_at hl 4 rfl) ?_
            refine lv_lload_n hx hb dd_M_keep_203 rfl (lv_at hl 8 rfl) ?_
            refine kx_last (q0 := 2) (t0 := 1) hx hb dd_M_keep_204 hK hP hD hS kg_6_2 rfl (by omega) (by omega) (fun H locs hP hD hS => ?_)
            have hP : va_P D vwCl [(o, .inr (0, [.int (nI th), .int (nI cn), .ref a0, .ref a1, .ref a2, .ref a3, .ref a4, .ref a5, .int (nI mn), .ref a6, .ref a7, .int (nI ps), .int (nI bk), .ref a8, .ref a9, .ref a10, .ref a11, .ref a12, .ref a13, .ref a14, .ref a15, .int (nI kf), .int lb, .int (nI lc), .long lo, .int (nI el), .int (nI ec), .long eo, .int eb, .long ed, .int (nI mp), .int (nI ml), .long md, .long mo, .int mb, .ref a16, .ref a17])), (a9, .inl (cZ, 3216, .inl (upd iz (((1608 * (n % 2)) + (4 * j)) + lc) (nI 1)))), (a10, .inl (cJ, 3216, .inr (.inl (vp_updL ou (((1608 * (n % 2)) + (4 * j)) + lc) oo)))), (a11, .inl (cI, 3216, .inl ba)), (a12, .inl (cJ, 3216, .inr (.inl de))), (a13, .inl (cJ, 161604, .inr (.inl bc)))] H := kx_cP kz_6_2 hP
            have hD : va_D A [(o, .inr (0, [.int (nI th), .int (nI cn), .ref a0, .ref a1, .ref a2, .ref a3, .ref a4, .ref a5, .int (nI mn), .ref a6, .ref a7, .int (nI ps), .int (nI bk), .ref a8, .ref a9, .ref a10, .ref a11, .ref a12, .ref a13, .ref a14, .ref a15, .int (nI kf), .int lb, .int (nI lc), .long lo, .int (nI el), .int (nI ec), .long eo, .int eb, .long ed, .int (nI mp), .int (nI ml), .long md, .long mo, .int mb, .ref a16, .ref a17])), (a9, .inl (cZ, 3216, .inl (upd iz (((1608 * (n % 2)) + (4 * j)) + lc) (nI 1)))), (a10, .inl (cJ, 3216, .inr (.inl (vp_updL ou (((1608 * (n % 2)) + (4 * j)) + lc) oo)))), (a11, .inl (cI, 3216, .inl ba)), (a12, .inl (cJ, 3216, .inr (.inl de))), (a13, .inl (cJ, 161604, .inr (.inl bc)))] := kx_cD kz_6_2 hD
            refine lv_aload_n hx hb dd_M_keep_205 rfl (lv_at hl 5 rfl) ?_
            refine va_get (D := D) (ci := 0) (v := .ref a11) (C := rr_M) (T := tt_M) (N := 37) hx hb hts hin0 hown hK hP 0 kg_6_0 rfl 16 (by decide) lk4 (fun _ h9 => h9) rfl dd_M_keep_206 ?_
            refine lv_iload hx hb dd_M_keep_209 (lv_at hl 4 rfl) ?_
            refine lv_iload hx hb dd_M_keep_211 (lv_at hl 9 rfl) ?_
            refine kx_iast (q0 := 3) (t0 := 0) hx hb dd_M_keep_213 hK hP hD hS kg_6_3 rfl (by omega) (by omega) (fun H locs hP hD hS => ?_)
            have hP : va_P D vwCl [(o, .inr (0, [.int (nI th), .int (nI cn), .ref a0, .ref a1, .ref a2, .ref a3, .ref a4, .ref a5, .int (nI mn), .ref a6, .ref a7, .int (nI ps), .int (nI bk), .ref a8, .ref a9, .ref a10, .ref a11, .ref a12, .ref a13, .ref a14, .ref a15, .int (nI kf), .int lb, .int (nI lc), .long lo, .int (nI el), .int (nI ec), .long eo, .int eb, .long ed, .int (nI mp), .int (nI ml), .long md, .long mo, .int mb, .ref a16, .ref a17])), (a9, .inl (cZ, 3216, .inl (upd iz (((1608 * (n % 2)) + (4 * j)) + lc) (nI 1)))), (a10, .inl (cJ, 3216, .inr (.inl (vp_updL ou (((1608 * (n % 2)) + (4 * j)) + lc) oo)))), (a11, .inl (cI, 3216, .inl (upd ba (((1608 * (n % 2)) + (4 * j)) + lc) ab))), (a12, .inl (cJ, 3216, .inr (.inl de))), (a13, .inl (cJ, 161604, .inr (.inl bc)))] H := kx_cP kz_6_3 hP
            have hD : va_D A [(o, .inr (0, [.int (nI th), .int (nI cn), .ref a0, .ref a1, .ref a2, .ref a3, .ref a4, .ref a5, .int (nI mn), .ref a6, .ref a7, .int (nI ps), .int (nI bk), .ref a8, .ref a9, .ref a10, .ref a11, .ref a12, .ref a13, .ref a14, .ref a15, .int (nI kf), .int lb, .int (nI lc), .long lo, .int (nI el), .int (nI ec), .long eo, .int eb, .long ed, .int (nI mp), .int (nI ml), .long md, .long mo, .int mb, .ref a16, .ref a17])), (a9, .inl (cZ, 3216, .inl (upd iz (((1608 * (n % 2)) + (4 * j)) + lc) (nI 1)))), (a10, .inl (cJ, 3216, .inr (.inl (vp_updL ou (((1608 * (n % 2)) + (4 * j)) + lc) oo)))), (a11, .inl (cI, 3216, .inl (upd ba (((1608 * (n % 2)) + (4 * j)) + lc) ab))), (a12, .inl (cJ, 3216, .inr (.inl de))), (a13, .inl (cJ, 161604, .inr (.inl bc)))] := kx_cD kz_6_3 hD
            refine lv_aload_n hx hb dd_M_keep_214 rfl (lv_at hl 5 rfl) ?_
            refine va_get (D := D) (ci := 0) (v := .ref a12) (C := rr_M) (T := tt_M) (N := 37) hx hb hts hin0 hown hK hP 0 kg_6_0 rfl 17 (by decide) lk5 (fun _ h9 => h9) rfl dd_M_keep_215 ?_
            refine lv_iload hx hb dd_M_keep_218 (lv_at hl 4 rfl) ?_
            refine lv_lload hx hb dd_M_keep_220 (lv_at hl 10 rfl) ?_
            refine kx_last (q0 := 4) (t0 := 1) hx hb dd_M_keep_222 hK hP hD hS kg_6_4 rfl (by omega) (by omega) (fun H locs hP hD hS => ?_)
            have hP : va_P D vwCl [(o, .inr (0, [.int (nI th), .int (nI cn), .ref a0, .ref a1, .ref a2, .ref a3, .ref a4, .ref a5, .int (nI mn), .ref a6, .ref a7, .int (nI ps), .int (nI bk), .ref a8, .ref a9, .ref a10, .ref a11, .ref a12, .ref a13, .ref a14, .ref a15, .int (nI kf), .int lb, .int (nI lc), .long lo, .int (nI el), .int (nI ec), .long eo, .int eb, .long ed, .int (nI mp), .int (nI ml), .long md, .long mo, .int mb, .ref a16, .ref a17])), (a9, .inl (cZ, 3216, .inl (upd iz (((1608 * (n % 2)) + (4 * j)) + lc) (nI 1)))), (a10, .inl (cJ, 3216, .inr (.inl (vp_updL ou (((1608 * (n % 2)) + (4 * j)) + lc) oo)))), (a11, .inl (cI, 3216, .inl (upd ba (((1608 * (n % 2)) + (4 * j)) + lc) ab))), (a12, .inl (cJ, 3216, .inr (.inl (vp_updL de (((1608 * (n % 2)) + (4 * j)) + lc) dd)))), (a13, .inl (cJ, 161604, .inr (.inl bc)))] H := kx_cP kz_6_4 hP
            have hD : va_D A [(o, .inr (0, [.int (nI th), .int (nI cn), .ref a0, .ref a1, .ref a2, .ref a3, .ref a4, .ref a5, .int (nI mn), .ref a6, .ref a7, .int (nI ps), .int (nI bk), .ref a8, .ref a9, .ref a10, .ref a11, .ref a12, .ref a13, .ref a14, .ref a15, .int (nI kf), .int lb, .int (nI lc), .long lo, .int (nI el), .int (nI ec), .long eo, .int eb, .long ed, .int (nI mp), .int (nI ml), .long md, .long mo, .int mb, .ref a16, .ref a17])), (a9, .inl (cZ, 3216, .inl (upd iz (((1608 * (n % 2)) + (4 * j)) + lc) (nI 1)))), (a10, .inl (cJ, 3216, .inr (.inl (vp_updL ou (((1608 * (n % 2)) + (4 * j)) + lc) oo)))), (a11, .inl (cI, 3216, .inl (upd ba (((1608 * (n % 2)) + (4 * j)) + lc) ab))), (a12, .inl (cJ, 3216, .inr (.inl (vp_updL de (((1608 * (n % 2)) + (4 * j)) + lc) dd)))), (a13, .inl (cJ, 161604, .inr (.inl bc)))] := kx_cD kz_6_4 hD
            refine lv_aload_n hx hb dd_M_keep_223 rfl (lv_at hl 5 rfl) ?_
            refine va_get (D := D) (ci := 0) (v := .ref a13) (C := rr_M) (T := tt_M) (N := 37) hx hb hts hin0 hown hK hP 0 kg_6_0 rfl 18 (by decide) lk6 (fun _ h9 => h9) rfl dd_M_keep_224 ?_
            refine lv_iload hx hb dd_M_keep_227 (lv_at hl 3 rfl) ?_
            refine lv_aload_n hx hb dd_M_keep_229 rfl (lv_at hl 5 rfl) ?_
            refine va_get (D := D) (ci := 0) (v := .ref a13) (C := rr_M) (T := tt_M) (N := 37) hx hb hts hin0 hown hK hP 0 kg_6_0 rfl 18 (by decide) lk6 (fun _ h9 => h9) rfl dd_M_keep_230 ?_
            refine lv_iload hx hb dd_M_keep_233 (lv_at hl 3 rfl) ?_
            refine kx_lald (q0 := 5) (t0 := 1) hx hb dd_M_keep_235 hK hP kg_6_5 rfl (by omega) (by omega) ?_
            refine lv_ldc2 (v := (65535)) hx hb hown lk7 dd_M_keep_236 ?_
            refine lv_iload hx hb dd_M_keep_239 (lv_at hl 2 rfl) ?_
            refine lv_lshl hx hb dd_M_keep_241 rfl ?_
            refine lv_ldc2 (v := (-1)) hx hb hown lk8 dd_M_keep_242 ?_
            refine lv_lxor hx hb dd_M_keep_245 ?_
            refine lv_land hx hb dd_M_keep_246 ?_
            refine lv_iload hx hb dd_M_keep_247 (lv_at hl 11 rfl) ?_
            refine lv_i2l hx hb dd_M_keep_249 rfl ?_
            refine lv_iload hx hb dd_M_keep_250 (lv_at hl 2 rfl) ?_
            refine lv_lshl hx hb dd_M_keep_252 rfl ?_
            refine lv_lor hx hb dd_M_keep_253 ?_
            refine kx_last (q0 := 5) (t0 := 1) hx hb dd_M_keep_254 hK hP hD hS kg_6_5 rfl (by omega) (by omega) (fun H locs hP hD hS => ?_)
            have hP : va_P D vwCl [(o, .inr (0, [.int (nI th), .int (nI cn), .ref a0, .ref a1, .ref a2, .ref a3, .ref a4, .ref a5, .int (nI mn), .ref a6, .ref a7, .int (nI ps), .int (nI bk), .ref a8, .ref a9, .ref a10, .ref a11, .ref a12, .ref a13, .ref a14, .ref a15, .int (nI kf), .int lb, .int (nI lc), .long lo, .int (nI el), .int (nI ec), .long eo, .int eb, .long ed, .int (nI mp), .int (nI ml), .long md, .long mo, .int mb, .ref a16, .ref a17])), (a9, .inl (cZ, 3216, .inl (upd iz (((1608 * (n % 2)) + (4 * j)) + lc) (nI 1)))), (a10, .inl (cJ, 3216, .inr (.inl (vp_updL ou (((1608 * (n % 2)) + (4 * j)) + lc) oo)))), (a11, .inl (cI, 3216, .inl (upd ba (((1608 * (n % 2)) + (4 * j)) + lc) ab))), (a12, .inl (cJ, 3216, .inr (.inl (vp_updL de (((1608 * (n % 2)) + (4 * j)) + lc) dd)))), (a13, .inl (cJ, 161604, .inr (.inl (vp_updL bc ((402 * n) + j) (((bc ((402 * n) + j)) &&& (((65535 : Int64) <<< ((nI (16 * lc)).toInt64 &&& 63)) ^^^ (-1 : Int64))) ||| (((nI ft).toInt64) <<< ((nI (16 * lc)).toInt64 &&& 63)))))))] H := kx_cP kz_6_5 hP
            have hD : va_D A [(o, .inr (0, [.int (nI th), .int (nI cn), .ref a0, .ref a1, .ref a2, .ref a3, .ref a4, .ref a5, .int (nI mn), .ref a6, .ref a7, .int (nI ps), .int (nI bk), .ref a8, .ref a9, .ref a10, .ref a11, .ref a12, .ref a13, .ref a14, .ref a15, .int (nI kf), .int lb, .int (nI lc), .long lo, .int (nI el), .int (nI ec), .long eo, .int eb, .long ed, .int (nI mp), .int (nI ml), .long md, .long mo, .int mb, .ref a16, .ref a17])), (a9, .inl (cZ, 3216, .inl (upd iz (((1608 * (n % 2)) + (4 * j)) + lc) (nI 1)))), (a10, .inl (cJ, 3216, .inr (.inl (vp_updL ou (((1608 * (n % 2)) + (4 * j)) + lc) oo)))), (a11, .inl (cI, 3216, .inl (upd ba (((1608 * (n % 2)) + (4 * j)) + lc) ab))), (a12, .inl (cJ, 3216, .inr (.inl (vp_updL de (((1608 * (n % 2)) + (4 * j)) + lc) dd)))), (a13, .inl (cJ, 161604, .inr (.inl (vp_updL bc ((402 * n) + j) (((bc ((402 * n) + j)) &&& (((65535 : Int64) <<< ((nI (16 * lc)).toInt64 &&& 63)) ^^^ (-1 : Int64))) ||| (((nI ft).toInt64) <<< ((nI (16 * lc)).toInt64 &&& 63)))))))] := kx_cD kz_6_5 hD
            rw [hQ]
            exact kx_vret hx hb hr hlocks hK hN hS dd_M_keep_255 (upd iz (((1608 * (n % 2)) + (4 * j)) + lc) (nI 1), vp_updL ou (((1608 * (n % 2)) + (4 * j)) + lc) oo, upd ba (((1608 * (n % 2)) + (4 * j)) + lc) ab, vp_updL de (((1608 * (n % 2)) + (4 * j)) + lc) dd, (vp_updL bc ((402 * n) + j) (((bc ((402 * n) + j)) &&& (((65535 : Int64) <<< ((nI (16 * lc)).toInt64 &&& 63)) ^^^ (-1 : Int64))) ||| (((nI ft).toInt64) <<< ((nI (16 * lc)).toInt64 &&& 63))))) hP hD (by first | (refine Or.inl ⟨?_, rfl, rfl, rfl, rfl, rfl⟩; simp only [pm_nw, pm_bt, pm_bk, pm_at, pm_pc, c43, c72, c100, c145, c158, if_true, if_false, not_true, not_false_iff, true_or, or_true, or_false, false_or]; done) | (refine Or.inr ⟨?_, rfl, rfl, rfl, rfl, rfl⟩; simp only [pm_nw, pm_bt, pm_bk, pm_at, pm_pc, c43, c72, c100, c145, c158, if_true, if_false, not_true, not_false_iff, true_or, or_true, or_false, false_or]; done))
      · skip
        have c100 : ps = 3 := (nI_eq (by omega) (by omega)).mp c100
        refine lv_iload hx hb dd_M_keep_103 (lv_at hl 8 rfl) ?_
        refine lv_aload_n hx hb dd_M_keep_105 rfl (lv_at hl 4 rfl) ?_
        refine va_get (D := D) (ci := 0) (v := .ref a11) (C := rr_M) (T := tt_M) (N := 37) hx hb hts hin0 hown hK hP 0 kg_6_0 rfl 16 (by decide) lk4 (fun _ h9 => h9) rfl dd_M_keep_106 ?_
        refine lv_iload hx hb dd_M_keep_109 (lv_at hl 3 rfl) ?_
        refine kx_iald (q0 := 3) (t0 := 0) hx hb dd_M_keep_111 hK hP kg_6_3 rfl (by omega) (by omega) ?_
        refine lv_icmp_eq (tgt := 135) hx hb dd_M_keep_112 (by decide) (fun c112 => ?_) (fun c112 => ?_)
        · skip
          refine lv_lload hx hb dd_M_keep_135 (lv_at hl 9 rfl) ?_
          refine lv_aload_n hx hb dd_M_keep_137 rfl (lv_at hl 4 rfl) ?_
          refine va_get (D := D) (ci := 0) (v := .ref a12) (C := rr_M) (T := tt_M) (N := 37) hx hb hts hin0 hown hK hP 0 kg_6_0 rfl 17 (by decide) lk5 (fun _ h9 => h9) rfl dd_M_keep_138 ?_
          refine lv_iload hx hb dd_M_keep_141 (lv_at hl 3 rfl) ?_
          refine kx_lald (q0 := 4) (t0 := 1) hx hb dd_M_keep_143 hK hP kg_6_4 rfl (by omega) (by omega) ?_
          refine W.lcmp hx hb dd_M_keep_144 ?_
          refine lv_if_eq (tgt := 169) hx hb dd_M_keep_145 (by decide) (fun c145 => ?_) (fun c145 => ?_)
          · skip
            have c145 := (lg_cmp_eq _ _).mp c145
            refine lv_iload hx hb dd_M_keep_169 (lv_at hl 10 rfl) ?_
            refine lv_iload hx hb dd_M_keep_171 (lv_at hl 0 rfl) ?_
            refine lv_icmp_ge (tgt := 180) hx hb dd_M_keep_173 (by decide) (fun c173 => ?_) (fun c173 => ?_)
            · skip
              refine lv_iconst (v := nI 0) hx hb dd_M_keep_180 (by decide) ?_
              refine lv_istore (lv' := [(13, .int (nI 0)), (12, .int ((((bc ((402 * n) + j)) >>> ((nI (16 * lc)).toInt64 &&& 63)) &&& (65535 : Int64)).toInt32)), (11, .int (nI (16 * lc))), (10, .int (nI ((402 * n) + j))), (9, .int (nI (((1608 * (n % 2)) + (4 * j)) + lc))), (0, .ref o), (1, .int (nI j)), (2, .int (nI n)), (3, .long oo), (5, .int ab), (6, .long dd), (8, .int (nI ft))]) hx hb dd_M_keep_181 hl (by decide) rfl (fun ls hl => ?_)
              refine lv_iload hx hb dd_M_keep_183 (lv_at hl 0 rfl) ?_
              refine lv_if_ne (tgt := 189) hx hb dd_M_keep_185 (by decide) (fun h => absurd (by decide +kernel) h) (fun _ => ?_)
              rw [hQ]
              exact kx_vret hx hb hr hlocks hK hN hS dd_M_keep_188 (iz, ou, ba, de, bc) hP hD (by first | (refine Or.inl ⟨?_, rfl, rfl, rfl, rfl, rfl⟩; simp only [pm_nw, pm_bt, pm_bk, pm_at, pm_pc, c43, c72, c100, c112, c145, c173, if_true, if_false, not_true, not_false_iff, true_or, or_true, or_false, false_or]; done) | (refine Or.inr ⟨?_, rfl, rfl, rfl, rfl, rfl⟩; simp only [pm_nw, pm_bt, pm_bk, pm_at, pm_pc, c43, c72, c100, c112, c145, c173, if_true, if_false, not_true, not_false_iff, true_or, or_true, or_false, false_or]; done))
            · skip
              refine lv_iconst (v := nI 1) hx hb dd_M_keep_176 (by decide) ?_
              refine lv_goto (tgt := 181) hx hb dd_M_keep_177 (by decide) ?_
              refine lv_istore (lv' := [(13, .int (nI 1)), (12, .int ((((bc ((402 * n) + j)) >>> ((nI (16 * lc)).toInt64 &&& 63)) &&& (65535 : Int64)).toInt32)), (11, .int (nI (16 * lc))), (10, .int (nI ((402 * n) + j))), (9, .int (nI (((1608 * (n % 2)) + (4 * j)) + lc))), (0, .ref o), (1, .int (nI j)), (2, .int (nI n)), (3, .long oo), (5, .int ab), (6, .long dd), (8, .int (nI ft))]) hx hb dd_M_keep_181 hl (by decide) rfl (fun ls hl => ?_)
              refine lv_iload hx hb dd_M_keep_183 (lv_at hl 0 rfl) ?_
              refine lv_if_ne (tgt := 189) hx hb dd_M_keep_185 (by decide) (fun _ => ?_) (fun h => absurd h (by decide +kernel))
              refine lv_aload_n hx hb dd_M_keep_189 rfl (lv_at hl 5 rfl) ?_
              refine va_get (D := D) (ci := 0) (v := .ref a9) (C := rr_M) (T := tt_M) (N := 37) hx hb hts hin0 hown hK hP 0 kg_6_0 rfl 14 (by decide) lk2 (fun _ h9 => h9) rfl dd_M_keep_190 ?_
              refine lv_iload hx hb dd_M_keep_193 (lv_at hl 4 rfl) ?_
              refine lv_iconst (v := nI 1) hx hb dd_M_keep_195 (by decide) ?_
              refine kx_zast (q0 := 1) (t0 := 2) hx hb dd_M_keep_196 hK hP hD hS kg_6_1 rfl (by omega) (by omega) (by decide) (fun H locs hP hD hS => ?_)
              have hP : va_P D vwCl [(o, .inr (0, [.int (nI th), .int (nI cn), .ref a0, .ref a1, .ref a2, .ref a3, .ref a4, .ref a5, .int (nI mn), .ref a6, .ref a7, .int (nI ps), .int (nI bk), .ref a8, .ref a9, .ref a10, .ref a11, .ref a12, .ref a13, .ref a14, .ref a15, .int (nI kf), .int lb, .int (nI lc), .long lo, .int (nI el), .int (nI ec), .long eo, .int eb, .long ed, .int (nI mp), .int (nI ml), .long md, .long mo, .int mb, .ref a16, .ref a17])), (a9, .inl (cZ, 3216, .inl (upd iz (((1608 * (n % 2)) + (4 * j)) + lc) (nI 1)))), (a10, .inl (cJ, 3216, .inr (.inl ou))), (a11, .inl (cI, 3216, .inl ba)), (a12, .inl (cJ, 3216, .inr (.inl de))), (a13, .inl (cJ, 161604, .inr (.inl bc)))] H := kx_cP kz_6_1 hP
              have hD : va_D A [(o, .inr (0, [.int (nI th), .int (nI cn), .ref a0, .ref a1, .ref a2, .ref a3, .ref a4, .ref a5, .int (nI mn), .ref a6, .ref a7, .int (nI ps), .int (nI bk), .ref a8, .ref a9, .ref a10, .ref a11, .ref a12, .ref a13, .ref a14, .ref a15, .int (nI kf), .int lb, .int (nI lc), .long lo, .int (nI el), .int (nI ec), .long eo, .int eb, .long ed, .int (nI mp), .int (nI ml), .long md, .long mo, .int mb, .ref a16, .ref a17])), (a9, .inl (cZ, 3216, .inl (upd iz (((1608 * (n % 2)) + (4 * j)) + lc) (nI 1)))), (a10, .inl (cJ, 3216, .inr (.inl ou))), (a11, .inl (cI, 3216, .inl ba)), (a12, .inl (cJ, 3216, .inr (.inl de))), (a13, .inl (cJ, 161604, .inr (.inl bc)))] := kx_cD kz_6_1 hD
              refine lv_aload_n hx hb dd_M_keep_197 rfl (lv_at hl 5 rfl) ?_
              refine va_get (D := D) (ci := 0) (v := .ref a10) (C := rr_M) (T := tt_M) (N := 37) hx hb hts hin0 hown hK hP 0 kg_6_0 rfl 15 (by decide) lk3 (fun _ h9 => h9) rfl dd_M_keep_198 ?_
              refine lv_iload hx hb dd_M_keep_201 (lv_at hl 4 rfl) ?_
              refine lv_lload_n hx hb dd_M_keep_203 rfl (lv_at hl 8 rfl) ?_
              refine kx_last (q0 := 2) (t0 := 1) hx hb dd_M_keep_204 hK hP hD hS kg_6_2 rfl (by omega) (by omega) (fun H locs hP hD hS => ?_)
              have hP : va_P D vwCl [(o, .inr (0, [.int (nI th), .int (nI cn), .ref a0, .ref a1, .ref a2, .ref a3, .ref a4, .ref a5, .int (nI mn), .ref a6, .ref a7, .int (nI ps), .int (nI bk), .ref a8, .ref a9, .ref a10, .ref a11, .ref a12, .ref a13, .ref a14, .ref a15, .int (nI kf), .int lb, .int (nI lc), .long lo, .int (nI el), .int (nI ec), .long eo, .int eb, .long ed, .int (nI mp), .int (nI ml), .long md, .long mo, .int mb, .ref a16, .ref a17])), (a9, .inl (cZ, 3216, .inl (upd iz (((1608 * (n % 2)) + (4 * j)) + lc) (nI 1)))), (a10, .inl (cJ, 3216, .inr (.inl (vp_updL ou (((1608 * (n % 2)) + (4 * j)) + lc) oo)))), (a11, .inl (cI, 3216, .inl ba)), (a12, .inl (cJ, 3216, .inr (.inl de))), (a13, .inl (cJ, 161604, .inr (.inl bc)))] H := kx_cP kz_6_2 hP
              have hD : va_D A [(o, .inr (0, [.int (nI th), .int (nI cn), .ref a0, .ref a1, .ref a2, .ref a3, .ref a4, .ref a5, .int (nI mn), .ref a6, .ref a7, .int (nI ps), .int (nI bk), .ref a8, .ref a9, .ref a10, .ref a11, .ref a12, .ref a13, .ref a14, .ref a15, .int (nI kf), .int lb, .int (nI lc), .long lo, .int (nI el), .int (nI ec), .long eo, .int eb, .long ed, .int (nI mp), .int (nI ml), .long md, .long mo, .int mb, .ref a16, .ref a17])), (a9, .inl (cZ, 3216, .inl (upd iz (((1608 * (n % 2)) + (4 * j)) + lc) (nI 1)))), (a10, .inl (cJ, 3216, .inr (.inl (vp_updL ou (((1608 * (n % 2)) + (4 * j)) + lc) oo)))), (a11, .inl (cI, 3216, .inl ba)), (a12, .inl (cJ, 3216, .inr (.inl de))), (a13, .inl (cJ, 161604, .inr (.inl bc)))] := kx_cD kz_6_2 hD
              refine lv_aload_n hx hb dd_M_keep_205 rfl (lv_at hl 5 rfl) ?_
              refine va_get (D := D) (ci := 0) (v := .ref a11) (C := rr_M) (T := tt_M) (N := 37) hx hb hts hin0 hown hK hP 0 kg_6_0 rfl 16 (by decide) lk4 (fun _ h9 => h9) rfl dd_M_keep_206 ?_
              refine lv_iload hx hb dd_M_keep_209 (lv_at hl 4 rfl) ?_
              refine lv_iload hx hb dd_M_keep_211 (lv_at hl 9 rfl) ?_
              refine kx_iast (q0 := 3) (t0 := 0) hx hb dd_M_keep_213 hK hP hD hS kg_6_3 rfl (by omega) (by omega) (fun H locs hP hD hS => ?_)
              have hP : va_P D vwCl [(o, .inr (0, [.int (nI th), .int (nI cn), .ref a0, .ref a1, .ref a2, .ref a3, .ref a4, .ref a5, .int (nI mn), .ref a6, .ref a7, .int (nI ps), .int (nI bk), .ref a8, .ref a9, .ref a10, .ref a11, .ref a12, .ref a13, .ref a14, .ref a15, .int (nI kf), .int lb, .int (nI lc), .long lo, .int (nI el), .int (nI ec), .long eo, .int eb, .long ed, .int (nI mp), .int (nI ml), .long md, .long mo, .int mb, .ref a16, .ref a17])), (a9, .inl (cZ, 3216, .inl (upd iz (((1608 * (n % 2)) + (4 * j)) + lc) (nI 1)))), (a10, .inl (cJ, 3216, .inr (.inl (vp_updL ou (((1608 * (n % 2)) + (4 * j)) + lc) oo)))), (a11, .inl (cI, 3216, .inl (upd ba (((1608 * (n % 2)) + (4 * j)) + lc) ab))), (a12, .inl (cJ, 3216, .inr (.inl de))), (a13, .inl (cJ, 161604, .inr (.inl bc)))] H := kx_cP kz_6_3 hP
              have hD : va_D A [(o, .inr (0, [.int (nI th), .int (nI cn), .ref a0, .ref a1, .ref a2, .ref a3, .ref a4, .ref a5, .int (nI mn), .ref a6, .ref a7, .int (nI ps), .int (nI bk), .ref a8, .ref a9, .ref a10, .ref a11, .ref a12, .ref a13, .ref a14, .ref a15, .int (nI kf), .int lb, .int (nI lc), .long lo, .int (nI el), .int (nI ec), .long eo, .int eb, .long ed, .int (nI mp), .int (nI ml), .long md, .long mo, .int mb, .ref a16, .ref a17])), (a9, .inl (cZ, 3216, .inl (upd iz (((1608 * (n % 2)) + (4 * j)) + lc) (nI 1)))), (a10, .inl (cJ, 3216, .inr (.inl (vp_updL ou (((1608 * (n % 2)) + (4 * j)) + lc) oo)))), (a11, .inl (cI, 3216, .inl (upd ba (((1608 * (n % 2)) + (4 * j)) + lc) ab))), (a12, .inl (cJ, 3216, .inr (.inl de))), (a13, .inl (cJ, 161604, .inr (.inl bc)))] := kx_cD kz_6_3 hD
              refine lv_aload_n hx hb dd_M_keep_214 rfl (lv_at hl 5 rfl) ?_
              refine va_get (D := D) (ci := 0) (v := .ref a12) (C := rr_M) (T := tt_M) (N := 37) hx hb hts hin0 hown hK hP 0 kg_6_0 rfl 17 (by decide) lk5 (fun _ h9 => h9) rfl dd_M_keep_215 ?_
              refine lv_iload hx hb dd_M_keep_218 (lv_at hl 4 rfl) ?_
              refine lv_lload hx hb dd_M_keep_220 (lv_at hl 10 rfl) ?_
              refine kx_last (q0 := 4) (t0 := 1) hx hb dd_M_keep_222 hK hP hD hS kg_6_4 rfl (by omega) (by omega) (fun H locs hP hD hS => ?_)
              have hP : va_P D vwCl [(o, .inr (0, [.int (nI th), .int (nI cn), .ref a0, .ref a1, .ref a2, .ref a3, .ref a4, .ref a5, .int (nI mn), .ref a6, .ref a7, .int (nI ps), .int (nI bk), .ref a8, .ref a9, .ref a10, .ref a11, .ref a12, .ref a13, .ref a14, .ref a15, .int (nI kf), .int lb, .int (nI lc), .long lo, .int (nI el), .int (nI ec), .long eo, .int eb, .long ed, .int (nI mp), .int (nI ml), .long md, .long mo, .int mb, .ref a16, .ref a17])), (a9, .inl (cZ, 3216, .inl (upd iz (((1608 * (n % 2)) + (4 * j)) + lc) (nI 1)))), (a10, .inl (cJ, 3216, .inr (.inl (vp_updL ou (((1608 * (n % 2)) + (4 * j)) + lc) oo)))), (a11, .inl (cI, 3216, .inl (upd ba (((1608 * (n % 2)) + (4 * j)) + lc) ab))), (a12, .inl (cJ, 3216, .inr (.inl (vp_updL de (((1608 * (n % 2)) + (4 * j)) + lc) dd)))), (a13, .inl (cJ, 161604, .inr (.inl bc)))] H := kx_cP kz_6_4 hP
              have hD : va_D A [(o, .inr (0, [.int (nI th), .int (nI cn), .ref a0, .ref a1, .ref a2, .ref a3, .ref a4, .ref a5, .int (nI mn), .ref a6, .ref a7, .int (nI ps), .int (nI bk), .ref a8, .ref a9, .ref a10, .ref a11, .ref a12, .ref a13, .ref a14, .ref a15, .int (nI kf), .int lb, .int (nI lc), .long lo, .int (nI el), .int (nI ec), .long eo, .int eb, .long ed, .int (nI mp), .int (nI ml), .long md, .long mo, .int mb, .ref a16, .ref a17])), (a9, .inl (cZ, 3216, .inl (upd iz (((1608 * (n % 2)) + (4 * j)) + lc) (nI 1)))), (a10, .inl (cJ, 3216, .inr (.inl (vp_updL ou (((1608 * (n % 2)) + (4 * j)) + lc) oo)))), (a11, .inl (cI, 3216, .inl (upd ba (((1608 * (n % 2)) + (4 * j)) + lc) ab))), (a12, .inl (cJ, 3216, .inr (.inl (vp_updL de (((1608 * (n % 2)) + (4 * j)) + lc) dd)))), (a13, .inl (cJ, 161604, .inr (.inl bc)))] := kx_cD kz_6_4 hD
              refine lv_aload_n hx hb dd_M_keep_223 rfl (lv_at hl 5 rfl) ?_
              refine va_get (D := D) (ci := 0) (v := .ref a13) (C := rr_M) (T := tt_M) (N := 37) hx hb hts hin0 hown hK hP 0 kg_6_0 rfl 18 (by decide) lk6 (fun _ h9 => h9) rfl dd_M_keep_224 ?_
              refine lv_iload hx hb dd_M_keep_227 (lv_at hl 3 rfl) ?_
              refine lv_aload_n hx hb dd_M_keep_229 rfl (lv_at hl 5 rfl) ?_
              refine va_get (D := D) (ci := 0) (v := .ref a13) (C := rr_M) (T := tt_M) (N := 37) hx hb hts hin0 hown hK hP 0 kg_6_0 rfl 18 (by decide) lk6 (fun _ h9 => h9) rfl dd_M_keep_230 ?_
              refine lv_iload hx hb dd_M_keep_233 (lv_at hl 3 rfl) ?_
              refine kx_lald (q0 := 5) (t0 := 1) hx hb dd_M_keep_235 hK hP kg_6_5 rfl (by omega) (by omega) ?_
              refine lv_ldc2 (v := (65535)) hx hb hown lk7 dd_M_keep_236 ?_
              refine lv_iload hx hb dd_M_keep_239 (lv_at hl 2 rfl) ?_
              refine lv_lshl hx hb dd_M_keep_241 rfl ?_
              refine lv_ldc2 (v := (-1)) hx hb hown lk8 dd_M_keep_242 ?_
              refine lv_lxor hx hb dd_M_keep_245 ?_
              refine lv_land hx hb dd_M_keep_246 ?_
              refine lv_iload hx hb dd_M_keep_247 (lv_at hl 11 rfl) ?_
              refine lv_i2l hx hb dd_M_keep_249 rfl ?_
              refine lv_iload hx hb dd_M_keep_250 (lv_at hl 2 rfl) ?_
              refine lv_lshl hx hb dd_M_keep_252 rfl ?_
              refine lv_lor hx hb dd_M_keep_253 ?_
              refine kx_last (q0 := 5) (t0 := 1) hx hb dd_M_keep_254 hK hP hD hS kg_6_5 rfl (by omega) (by omega) (fun H locs hP hD hS => ?_)
              have hP : va_P D vwCl [(o, .inr (0, [.int (nI th), .int (nI cn), .ref a0, .ref a1, .ref a2, .ref a3, .ref a4, .ref a5, .int (nI mn), .ref a6, .ref a7, .int (nI ps), .int (nI bk), .ref a8, .ref a9, .ref a10, .ref a11, .ref a12, .ref a13, .ref a14, .ref a15, .int (nI kf), .int lb, .int (nI lc), .long lo, .int (nI el), .int (nI ec), .long eo, .int eb, .long ed, .int (nI mp), .int (nI ml), .long md, .long mo, .int mb, .ref a16, .ref a17])), (a9, .inl (cZ, 3216, .inl (upd iz (((1608 * (n % 2)) + (4 * j)) + lc) (nI 1)))), (a10, .inl (cJ, 3216, .inr (.inl (vp_updL ou (((1608 * (n % 2)) + (4 * j)) + lc) oo)))), (a11, .inl (cI, 3216, .inl (upd ba (((1608 * (n % 2)) + (4 * j)) + lc) ab))), (a12, .inl (cJ, 3216, .inr (.inl (vp_updL de (((1608 * (n % 2)) + (4 * j)) + lc) dd)))), (a13, .inl (cJ, 161604, .inr (.inl (vp_updL bc ((402 * n) + j) (((bc ((402 * n) + j)) &&& (((65535 : Int64) <<< ((nI (16 * lc)).toInt64 &&& 63)) ^^^ (-1 : Int64))) ||| (((nI ft).toInt64) <<< ((nI (16 * lc)).toInt64 &&& 63)))))))] H := kx_cP kz_6_5 hP
              have hD : va_D A [(o, .inr (0, [.int (nI th), .int (nI cn), .ref a0, .ref a1, .ref a2, .ref a3, .ref a4, .ref a5, .int (nI mn), .ref a6, .ref a7, .int (nI ps), .int (nI bk), .ref a8, .ref a9, .ref a10, .ref a11, .ref a12, .ref a13, .ref a14, .ref a15, .int (nI kf), .int lb, .int (nI lc), .long lo, .int (nI el), .int (nI ec), .long eo, .int eb, .long ed, .int (nI mp), .int (nI ml), .long md, .long mo, .int mb, .ref a16, .ref a17])), (a9, .inl (cZ, 3216, .inl (upd iz (((1608 * (n % 2)) + (4 * j)) + lc) (nI 1)))), (a10, .inl (cJ, 3216, .inr (.inl (vp_updL ou (((1608 * (n % 2)) + (4 * j)) + lc) oo)))), (a11, .inl (cI, 3216, .inl (upd ba (((1608 * (n % 2)) + (4 * j)) + lc) ab))), (a12, .inl (cJ, 3216, .inr (.inl (vp_updL de (((1608 * (n % 2)) + (4 * j)) + lc) dd)))), (a13, .inl (cJ, 161604, .inr (.inl (vp_updL bc ((402 * n) + j) (((bc ((402 * n) + j)) &&& (((65535 : Int64) <<< ((nI (16 * lc)).toInt64 &&& 63)) ^^^ (-1 : Int64))) ||| (((nI ft).toInt64) <<< ((nI (16 * lc)).toInt64 &&& 63)))))))] := kx_cD kz_6_5 hD
              rw [hQ]
              exact kx_vret hx hb hr hlocks hK hN hS dd_M_keep_255 (upd iz (((1608 * (n % 2)) + (4 * j)) + lc) (nI 1), vp_updL ou (((1608 * (n % 2)) + (4 * j)) + lc) oo, upd ba (((1608 * (n % 2)) + (4 * j)) + lc) ab, vp_updL de (((1608 * (n % 2)) + (4 * j)) + lc) dd, (vp_updL bc ((402 * n) + j) (((bc ((402 * n) + j)) &&& (((65535 : Int64) <<< ((nI (16 * lc)).toInt64 &&& 63)) ^^^ (-1 : Int64))) ||| (((nI ft).toInt64) <<< ((nI (16 * lc)).toInt64 &&& 63))))) hP hD (by first | (refine Or.inl ⟨?_, rfl, rfl, rfl, rfl, rfl⟩; simp only [pm_nw, pm_bt, pm_bk, pm_at, pm_pc, c43, c72, c100, c112, c145, c173, if_true, if_false, not_true, not_false_iff, true_or, or_true, or_false, false_or]; done) | (refine Or.inr ⟨?_, rfl, rfl, rfl, rfl, rfl⟩; simp only [pm_nw, pm_bt, pm_bk, pm_at, pm_pc, c43, c72, c100, c112, c145, c173, if_true, if_false, not_true, not_false_iff, true_or, or_true, or_false, false_or]; done))
          · skip
            have c145 : ¬ (dd = (de (((1608 * (n % 2)) + (4 * j)) + lc))) := fun h => c145 ((lg_cmp_eq _ _).mpr h)
            refine lv_lload hx hb dd_M_keep_148 (lv_at hl 9 rfl) ?_
            refine lv_aload_n hx hb dd_M_keep_150 rfl (lv_at hl 4 rfl) ?_
            refine va_get (D := D) (ci := 0) (v := .ref a12) (C := rr_M) (T := tt_M) (N := 37) hx hb hts hin0 hown hK hP 0 kg_6_0 rfl 17 (by decide) lk5 (fun _ h9 => h9) rfl dd_M_keep_151 ?_
            refine lv_iload hx hb dd_M_keep_154 (lv_at hl 3 rfl) ?_
            refine kx_lald (q0 := 4) (t0 := 1) hx hb dd_M_keep_156 hK hP kg_6_4 rfl (by omega) (by omega) ?_
            refine W.lcmp hx hb dd_M_keep_157 ?_
            refine lv_if_ge (tgt := 165) hx hb dd_M_keep_158 (by decide) (fun c158 => ?_) (fun c158 => ?_)
            · skip
              have c158 := (lg_cmp_ge _ _).mp c158
              refine lv_iconst (v := nI 0) hx hb dd_M_keep_165 (by decide) ?_
              refine lv_goto (tgt := 181) hx hb dd_M_keep_166 (by decide) ?_
              refine lv_istore (lv' := [(13, .int (nI 0)), (12, .int ((((bc ((402 * n) + j)) >>> ((nI (16 * lc)).toInt64 &&& 63)) &&& (65535 : Int64)).toInt32)), (11, .int (nI (16 * lc))), (10, .int (nI ((402 * n) + j))), (9, .int (nI (((1608 * (n % 2)) + (4 * j)) + lc))), (0, .ref o), (1, .int (nI j)), (2, .int (nI n)), (3, .long oo), (5, .int ab), (6, .long dd), (8, .int (nI ft))]) hx hb dd_M_keep_181 hl (by decide) rfl (fun ls hl => ?_)
              refine lv_iload hx hb dd_M_keep_183 (lv_at hl 0 rfl) ?_
              refine lv_if_ne (tgt := 189) hx hb dd_M_keep_185 (by decide) (fun h => absurd (by decide +kernel) h) (fun _ => ?_)
              rw [hQ]
              exact kx_vret hx hb hr hlocks hK hN hS dd_M_keep_188 (iz, ou, ba, de, bc) hP hD (by first | (refine Or.inl ⟨?_, rfl, rfl, rfl, rfl, rfl⟩; simp only [pm_nw, pm_bt, pm_bk, pm_at, pm_pc, c43, c72, c100, c112, c145, c158, if_true, if_false, not_true, not_false_iff, true_or, or_true, or_false, false_or]; done) | (refine Or.inr ⟨?_, rfl, rfl, rfl, rfl, rfl⟩; simp only [pm_nw, pm_bt, pm_bk, pm_at, pm_pc, c43, c72, c100, c112, c145, c158, if_true, if_false, not_true, not_false_iff, true_or, or_true, or_false, false_or]; done))
            · skip
              have c158 : ¬ ((de (((1608 * (n % 2)) + (4 * j)) + lc)) ≤ dd) := fun h => c158 ((lg_cmp_ge _ _).mpr h)
              refine lv_iconst (v := nI 1) hx hb dd_M_keep_161 (by decide) ?_
              refine lv_goto (tgt := 181) hx hb dd_M_keep_162 (by decide) ?_
              refine lv_istore (lv' := [(13, .int (nI 1)), (12, .int ((((bc ((402 * n) + j)) >>> ((nI (16 * lc)).toInt64 &&& 63)) &&& (65535 : Int64)).toInt32)), (11, .int (nI (16 * lc))), (10, .int (nI ((402 * n) + j))), (9, .int (nI (((1608 * (n % 2)) + (4 * j)) + lc))), (0, .ref o), (1, .int (nI j)), (2, .int (nI n)), (3, .long oo), (5, .int ab), (6, .long dd), (8, .int (nI ft))]) hx hb dd_M_keep_181 hl (by decide) rfl (fun ls hl => ?_)
              refine lv_iload hx hb dd_M_keep_183 (lv_at hl 0 rfl) ?_
              refine lv_if_ne (tgt := 189) hx hb dd_M_keep_185 (by decide) (fun _ => ?_) (fun h => absurd h (by decide +kernel))
              refine lv_aload_n hx hb dd_M_keep_189 rfl (lv_at hl 5 rfl) ?_
              refine va_get (D := D) (ci := 0) (v := .ref a9) (C := rr_M) (T := tt_M) (N := 37) hx hb hts hin0 hown hK hP 0 kg_6_0 rfl 14 (by decide) lk2 (fun _ h9 => h9) rfl dd_M_keep_190 ?_
              refine lv_iload hx hb dd_M_keep_193 (lv_at hl 4 rfl) ?_
              refine lv_iconst (v := nI 1) hx hb dd_M_keep_195 (by decide) ?_
              refine kx_zast (q0 := 1) (t0 := 2) hx hb dd_M_keep_196 hK hP hD hS kg_6_1 rfl (by omega) (by omega) (by decide) (fun H locs hP hD hS => ?_)
              have hP : va_P D vwCl [(o, .inr (0, [.int (nI th), .int (nI cn), .ref a0, .ref a1, .ref a2, .ref a3, .ref a4, .ref a5, .int (nI mn), .ref a6, .ref a7, .int (nI ps), .int (nI bk), .ref a8, .ref a9, .ref a10, .ref a11, .ref a12, .ref a13, .ref a14, .ref a15, .int (nI kf), .int lb, .int (nI lc), .long lo, .int (nI el), .int (nI ec), .long eo, .int eb, .long ed, .int (nI mp), .int (nI ml), .long md, .long mo, .int mb, .ref a16, .ref a17])), (a9, .inl (cZ, 3216, .inl (upd iz (((1608 * (n % 2)) + (4 * j)) + lc) (nI 1)))), (a10, .inl (cJ, 3216, .inr (.inl ou))), (a11, .inl (cI, 3216, .inl ba)), (a12, .inl (cJ, 3216, .inr (.inl de))), (a13, .inl (cJ, 161604, .inr (.inl bc)))] H := kx_cP kz_6_1 hP
              have hD : va_D A [(o, .inr (0, [.int (nI th), .int (nI cn), .ref a0, .ref a1, .ref a2, .ref a3, .ref a4, .ref a5, .int (nI mn), .ref a6, .ref a7, .int (nI ps), .int (nI bk), .ref a8, .ref a9, .ref a10, .ref a11, .ref a12, .ref a13, .ref a14, .ref a15, .int (nI kf), .int lb, .int (nI lc), .long lo, .int (nI el), .int (nI ec), .long eo, .int eb, .long ed, .int (nI mp), .int (nI ml), .long md, .long mo, .int mb, .ref a16, .ref a17])), (a9, .inl (cZ, 3216, .inl (upd iz (((1608 * (n % 2)) + (4 * j)) + lc) (nI 1)))), (a10, .inl (cJ, 3216, .inr (.inl ou))), (a11, .inl (cI, 3216, .inl ba)), (a12, .inl (cJ, 3216, .inr (.inl de))), (a13, .inl (cJ, 161604, .inr (.inl bc)))] := kx_cD kz_6_1 hD
              refine lv_aload_n hx hb dd_M_keep_197 rfl (lv_at hl 5 rfl) ?_
              refine va_get (D := D) (ci := 0) (v := .ref a10) (C := rr_M) (T := tt_M) (N := 37) hx hb hts hin0 hown hK hP 0 kg_6_0 rfl 15 (by decide) lk3 (fun _ h9 => h9) rfl dd_M_keep_198 ?_
              refine lv_iload hx hb dd_M_keep_201 (lv_at hl 4 rfl) ?_
              refine lv_lload_n hx hb dd_M_keep_203 rfl (lv_at hl 8 rfl) ?_
              refine kx_last (q0 := 2) (t0 := 1) hx hb dd_M_keep_204 hK hP hD hS kg_6_2 rfl (by omega) (by omega) (fun H locs hP hD hS => ?_)
              have hP : va_P D vwCl [(o, .inr (0, [.int (nI th), .int (nI cn), .ref a0, .ref a1, .ref a2, .ref a3, .ref a4, .ref a5, .int (nI mn), .ref a6, .ref a7, .int (nI ps), .int (nI bk), .ref a8, .ref a9, .ref a10, .ref a11, .ref a12, .ref a13, .ref a14, .ref a15, .int (nI kf), .int lb, .int (nI lc), .long lo, .int (nI el), .int (nI ec), .long eo, .int eb, .long ed, .int (nI mp), .int (nI ml), .long md, .long mo, .int mb, .ref a16, .ref a17])), (a9, .inl (cZ, 3216, .inl (upd iz (((1608 * (n % 2)) + (4 * j)) + lc) (nI 1)))), (a10, .inl (cJ, 3216, .inr (.inl (vp_updL ou (((1608 * (n % 2)) + (4 * j)) + lc) oo)))), (a11, .inl (cI, 3216, .inl ba)), (a12, .inl (cJ, 3216, .inr (.inl de))), (a13, .inl (cJ, 161604, .inr (.inl bc)))] H := kx_cP kz_6_2 hP
              have hD : va_D A [(o, .inr (0, [.int (nI th), .int (nI cn), .ref a0, .ref a1, .ref a2, .ref a3, .ref a4, .ref a5, .int (nI mn), .ref a6, .ref a7, .int (nI ps), .int (nI bk), .ref a8, .ref a9, .ref a10, .ref a11, .ref a12, .ref a13, .ref a14, .ref a15, .int (nI kf), .int lb, .int (nI lc), .long lo, .int (nI el), .int (nI ec), .long eo, .int eb, .long ed, .int (nI mp), .int (nI ml), .long md, .long mo, .int mb, .ref a16, .ref a17])), (a9, .inl (cZ, 3216, .inl (upd iz (((1608 * (n % 2)) + (4 * j)) + lc) (nI 1)))), (a10, .inl (cJ, 3216, .inr (.inl (vp_updL ou (((1608 * (n % 2)) + (4 * j)) + lc) oo)))), (a11, .inl (cI, 3216, .inl ba)), (a12, .inl (cJ, 3216, .inr (.inl de))), (a13, .inl (cJ, 161604, .inr (.inl bc)))] := kx_cD kz_6_2 hD
              refine lv_aload_n hx hb dd_M_keep_205 rfl (lv_at hl 5 rfl) ?_
              refine va_get (D := D) (ci := 0) (v := .ref a11) (C := rr_M) (T := tt_M) (N := 37) hx hb hts hin0 hown hK hP 0 kg_6_0 rfl 16 (by decide) lk4 (fun _ h9 => h9) rfl dd_M_keep_206 ?_
              refine lv_iload hx hb dd_M_keep_209 (lv_at hl 4 rfl) ?_
              refine lv_iload hx hb dd_M_keep_211 (lv_at hl 9 rfl) ?_
              refine kx_iast (q0 := 3) (t0 := 0) hx hb dd_M_keep_213 hK hP hD hS kg_6_3 rfl (by omega) (by omega) (fun H locs hP hD hS => ?_)
              have hP : va_P D vwCl [(o, .inr (0, [.int (nI th), .int (nI cn), .ref a0, .ref a1, .ref a2, .ref a3, .ref a4, .ref a5, .int (nI mn), .ref a6, .ref a7, .int (nI ps), .int (nI bk), .ref a8, .ref a9, .ref a10, .ref a11, .ref a12, .ref a13, .ref a14, .ref a15, .int (nI kf), .int lb, .int (nI lc), .long lo, .int (nI el), .int (nI ec), .long eo, .int eb, .long ed, .int (nI mp), .int (nI ml), .long md, .long mo, .int mb, .ref a16, .ref a17])), (a9, .inl (cZ, 3216, .inl (upd iz (((1608 * (n % 2)) + (4 * j)) + lc) (nI 1)))), (a10, .inl (cJ, 3216, .inr (.inl (vp_updL ou (((1608 * (n % 2)) + (4 * j)) + lc) oo)))), (a11, .inl (cI, 3216, .inl (upd ba (((1608 * (n % 2)) + (4 * j)) + lc) ab))), (a12, .inl (cJ, 3216, .inr (.inl de))), (a13, .inl (cJ, 161604, .inr (.inl bc)))] H := kx_cP kz_6_3 hP
              have hD : va_D A [(o, .inr (0, [.int (nI th), .int (nI cn), .ref a0, .ref a1, .ref a2, .ref a3, .ref a4, .ref a5, .int (nI mn), .ref a6, .ref a7, .int (nI ps), .int (nI bk), .ref a8, .ref a9, .ref a10, .ref a11, .ref a12, .ref a13, .ref a14, .ref a15, .int (nI kf), .int lb, .int (nI lc), .long lo, .int (nI el), .int (nI ec), .long eo, .int eb, .long ed, .int (nI mp), .int (nI ml), .long md, .long mo, .int mb, .ref a16, .ref a17])), (a9, .inl (cZ, 3216, .inl (upd iz (((1608 * (n % 2)) + (4 * j)) + lc) (nI 1)))), (a10, .inl (cJ, 3216, .inr (.inl (vp_updL ou (((1608 * (n % 2)) + (4 * j)) + lc) oo)))), (a11, .inl (cI, 3216, .inl (upd ba (((1608 * (n % 2)) + (4 * j)) + lc) ab))), (a12, .inl (cJ, 3216, .inr (.inl de))), (a13, .inl (cJ, 161604, .inr (.inl bc)))] := kx_cD kz_6_3 hD
              refine lv_aload_n hx hb dd_M_keep_214 rfl (lv_at hl 5 rfl) ?_
              refine va_get (D := D) (ci := 0) (v := .ref a12) (C := rr_M) (T := tt_M) (N := 37) hx hb hts hin0 hown hK hP 0 kg_6_0 rfl 17 (by decide) lk5 (fun _ h9 => h9) rfl dd_M_keep_215 ?_
              refine lv_iload hx hb dd_M_keep_218 (lv_at hl 4 rfl) ?_
              refine lv_lload hx hb dd_M_keep_220 (lv_at hl 10 rfl) ?_
              refine kx_last (q0 := 4) (t0 := 1) hx hb dd_M_keep_222 hK hP hD hS kg_6_4 rfl (by omega) (by omega) (fun H locs hP hD hS => ?_)
              have hP : va_P D vwCl [(o, .inr (0, [.int (nI th), .int (nI cn), .ref a0, .ref a1, .ref a2, .ref a3, .ref a4, .ref a5, .int (nI mn), .ref a6, .ref a7, .int (nI ps), .int (nI bk), .ref a8, .ref a9, .ref a10, .ref a11, .ref a12, .ref a13, .ref a14, .ref a15, .int (nI kf), .int lb, .int (nI lc), .long lo, .int (nI el), .int (nI ec), .long eo, .int eb, .long ed, .int (nI mp), .int (nI ml), .long md, .long mo, .int mb, .ref a16, .ref a17])), (a9, .inl (cZ, 3216, .inl (upd iz (((1608 * (n % 2)) + (4 * j)) + lc) (nI 1)))), (a10, .inl (cJ, 3216, .inr (.inl (vp_updL ou (((1608 * (n % 2)) + (4 * j)) + lc) oo)))), (a11, .inl (cI, 3216, .inl (upd ba (((1608 * (n % 2)) + (4 * j)) + lc) ab))), (a12, .inl (cJ, 3216, .inr (.inl (vp_updL de (((1608 * (n % 2)) + (4 * j)) + lc) dd)))), (a13, .inl (cJ, 161604, .inr (.inl bc)))] H := kx_cP kz_6_4 hP
              have hD : va_D A [(o, .inr (0, [.int (nI th), .int (nI cn), .ref a0, .ref a1, .ref a2, .ref a3, .ref a4, .ref a5, .int (nI mn), .ref a6, .ref a7, .int (nI ps), .int (nI bk), .ref a8, .ref a9, .ref a10, .ref a11, .ref a12, .ref a13, .ref a14, .ref a15, .int (nI kf), .int lb, .int (nI lc), .long lo, .int (nI el), .int (nI ec), .long eo, .int eb, .long ed, .int (nI mp), .int (nI ml), .long md, .long mo, .int mb, .ref a16, .ref a17])), (a9, .inl (cZ, 3216, .inl (upd iz (((1608 * (n % 2)) + (4 * j)) + lc) (nI 1)))), (a10, .inl (cJ, 3216, .inr (.inl (vp_updL ou (((1608 * (n % 2)) + (4 * j)) + lc) oo)))), (a11, .inl (cI, 3216, .inl (upd ba (((1608 * (n % 2)) + (4 * j)) + lc) ab))), (a12, .inl (cJ, 3216, .inr (.inl (vp_updL de (((1608 * (n % 2)) + (4 * j)) + lc) dd)))), (a13, .inl (cJ, 161604, .inr (.inl bc)))] := kx_cD kz_6_4 hD
              refine lv_aload_n hx hb dd_M_keep_223 rfl (lv_at hl 5 rfl) ?_
              refine va_get (D := D) (ci := 0) (v := .ref a13) (C := rr_M) (T := tt_M) (N := 37) hx hb hts hin0 hown hK hP 0 kg_6_0 rfl 18 (by decide) lk6 (fun _ h9 => h9) rfl dd_M_keep_224 ?_
              refine lv_iload hx hb dd_M_keep_227 (lv_at hl 3 rfl) ?_
              refine lv_aload_n hx hb dd_M_keep_229 rfl (lv_at hl 5 rfl) ?_
              refine va_get (D := D) (ci := 0) (v := .ref a13) (C := rr_M) (T := tt_M) (N := 37) hx hb hts hin0 hown hK hP 0 kg_6_0 rfl 18 (by decide) lk6 (fun _ h9 => h9) rfl dd_M_keep_230 ?_
              refine lv_iload hx hb dd_M_keep_233 (lv_at hl 3 rfl) ?_
              refine kx_lald (q0 := 5) (t0 := 1) hx hb dd_M_keep_235 hK hP kg_6_5 rfl (by omega) (by omega) ?_
              refine lv_ldc2 (v := (65535)) hx hb hown lk7 dd_M_keep_236 ?_
              refine lv_iload hx hb dd_M_keep_239 (lv_at hl 2 rfl) ?_
              refine lv_lshl hx hb dd_M_keep_241 rfl ?_
              refine lv_ldc2 (v := (-1)) hx hb hown lk8 dd_M_keep_242 ?_
              refine lv_lxor hx hb dd_M_keep_245 ?_
              refine lv_land hx hb dd_M_keep_246 ?_
              refine lv_iload hx hb dd_M_keep_247 (lv_at hl 11 rfl) ?_
              refine lv_i2l hx hb dd_M_keep_249 rfl ?_
              refine lv_iload hx hb dd_M_keep_250 (lv_at hl 2 rfl) ?_
              refine lv_lshl hx hb dd_M_keep_252 rfl ?_
              refine lv_lor hx hb dd_M_keep_253 ?_
              refine kx_last (q0 := 5) (t0 := 1) hx hb dd_M_keep_254 hK hP hD hS kg_6_5 rfl (by omega) (by omega) (fun H locs hP hD hS => ?_)
              have hP : va_P D vwCl [(o, .inr (0, [.int (nI th), .int (nI cn), .ref a0, .ref a1, .ref a2, .ref a3, .ref a4, .ref a5, .int (nI mn), .ref a6, .ref a7, .int (nI ps), .int (nI bk), .ref a8, .ref a9, .ref a10, .ref a11, .ref a12, .ref a13, .ref a14, .ref a15, .int (nI kf), .int lb, .int (nI lc), .long lo, .int (nI el), .int (nI ec), .long eo, .int eb, .long ed, .int (nI mp), .int (nI ml), .long md, .long mo, .int mb, .ref a16, .ref a17])), (a9, .inl (cZ, 3216, .inl (upd iz (((1608 * (n % 2)) + (4 * j)) + lc) (nI 1)))), (a10, .inl (cJ, 3216, .inr (.inl (vp_updL ou (((1608 * (n % 2)) + (4 * j)) + lc) oo)))), (a11, .inl (cI, 3216, .inl (upd ba (((1608 * (n % 2)) + (4 * j)) + lc) ab))), (a12, .inl (cJ, 3216, .inr (.inl (vp_updL de (((1608 * (n % 2)) + (4 * j)) + lc) dd)))), (a13, .inl (cJ, 161604, .inr (.inl (vp_updL bc ((402 * n) + j) (((bc ((402 * n) + j)) &&& (((65535 : Int64) <<< ((nI (16 * lc)).toInt64 &&& 63)) ^^^ (-1 : Int64))) ||| (((nI ft).toInt64) <<< ((nI (16 * lc)).toInt64 &&& 63)))))))] H := kx_cP kz_6_5 hP
              have hD : va_D A [(o, .inr (0, [.int (nI th), .int (nI cn), .ref a0, .ref a1, .ref a2, .ref a3, .ref a4, .ref a5, .int (nI mn), .ref a6, .ref a7, .int (nI ps), .int (nI bk), .ref a8, .ref a9, .ref a10, .ref a11, .ref a12, .ref a13, .ref a14, .ref a15, .int (nI kf), .int lb, .int (nI lc), .long lo, .int (nI el), .int (nI ec), .long eo, .int eb, .long ed, .int (nI mp), .int (nI ml), .long md, .long mo, .int mb, .ref a16, .ref a17])), (a9, .inl (cZ, 3216, .inl (upd iz (((1608 * (n % 2)) + (4 * j)) + lc) (nI 1)))), (a10, .inl (cJ, 3216, .inr (.inl (vp_updL ou (((1608 * (n % 2)) + (4 * j)) + lc) oo)))), (a11, .inl (cI, 3216, .inl (upd ba (((1608 * (n % 2)) + (4 * j)) + lc) ab))), (a12, .inl (cJ, 3216, .inr (.inl (vp_updL de (((1608 * (n % 2)) + (4 * j)) + lc) dd)))), (a13, .inl (cJ, 161604, .inr (.inl (vp_updL bc ((402 * n) + j) (((bc ((402 * n) + j)) &&& (((65535 : Int64) <<< ((nI (16 * lc)).toInt64 &&& 63)) ^^^ (-1 : Int64))) ||| (((nI ft).toInt64) <<< ((nI (16 * lc)).toInt64 &&& 63)))))))] := kx_cD kz_6_5 hD
              rw [hQ]
              exact kx_vret hx hb hr hlocks hK hN hS dd_M_keep_255 (upd iz (((1608 * (n % 2)) + (4 * j)) + lc) (nI 1), vp_updL ou (((1608 * (n % 2)) + (4 * j)) + lc) oo, upd ba (((1608 * (n % 2)) + (4 * j)) + lc) ab, vp_updL de (((1608 * (n % 2)) + (4 * j)) + lc) dd, (vp_updL bc ((402 * n) + j) (((bc ((402 * n) + j)) &&& (((65535 : Int64) <<< ((nI (16 * lc)).toInt64 &&& 63)) ^^^ (-1 : Int64))) ||| (((nI ft).toInt64) <<< ((nI (16 * lc)).toInt64 &&& 63))))) hP hD (by first | (refine Or.inl ⟨?_, rfl, rfl, rfl, rfl, rfl⟩; simp only [pm_nw, pm_bt, pm_bk, pm_at, pm_pc, c43, c72, c100, c112, c145, c158, if_true, if_false, not_true, not_false_iff, true_or, or_true, or_false, false_or]; done) | (refine Or.inr ⟨?_, rfl, rfl, rfl, rfl, rfl⟩; simp only [pm_nw, pm_bt, pm_bk, pm_at, pm_pc, c43, c72, c100, c112, c145, c158, if_true, if_false, not_true, not_false_iff, true_or, or_true, or_false, false_or]; done))
        · skip
          refine lv_iload hx hb dd_M_keep_115 (lv_at hl 8 rfl) ?_
          refine lv_aload_n hx hb dd_M_keep_117 rfl (lv_at hl 4 rfl) ?_
          refine va_get (D := D) (ci := 0) (v := .ref a11) (C := rr_M) (T := tt_M) (N := 37) hx hb hts hin0 hown hK hP 0 kg_6_0 rfl 16 (by decide) lk4 (fun _ h9 => h9) rfl dd_M_keep_118 ?_
          refine lv_iload hx hb dd_M_keep_121 (lv_at hl 3 rfl) ?_
          refine kx_iald (q0 := 3) (t0 := 0) hx hb dd_M_keep_123 hK hP kg_6_3 rfl (by omega) (by omega) ?_
          refine lv_icmp_ge (tgt := 131) hx hb dd_M_keep_124 (by decide) (fun c124 => ?_) (fun c124 => ?_)
          · skip
            refine lv_iconst (v := nI 0) hx hb dd_M_keep_131 (by decide) ?_
            refine lv_goto (tgt := 181) hx hb dd_M_keep_132 (by decide) ?_
            refine lv_istore (lv' := [(13, .int (nI 0)), (12, .int ((((bc ((402 * n) + j)) >>> ((nI (16 * lc)).toInt64 &&& 63)) &&& (65535 : Int64)).toInt32)), (11, .int (nI (16 * lc))), (10, .int (nI ((402 * n) + j))), (9, .int (nI (((1608 * (n % 2)) + (4 * j)) + lc))), (0, .ref o), (1, .int (nI j)), (2, .int (nI n)), (3, .long oo), (5, .int ab), (6, .long dd), (8, .int (nI ft))]) hx hb dd_M_keep_181 hl (by decide) rfl (fun ls hl => ?_)
            refine lv_iload hx hb dd_M_keep_183 (lv_at hl 0 rfl) ?_
            refine lv_if_ne (tgt := 189) hx hb dd_M_keep_185 (by decide) (fun h => absurd (by decide +kernel) h) (fun _ => ?_)
            rw [hQ]
            exact kx_vret hx hb hr hlocks hK hN hS dd_M_keep_188 (iz, ou, ba, de, bc) hP hD (by first | (refine Or.inl ⟨?_, rfl, rfl, rfl, rfl, rfl⟩; simp only [pm_nw, pm_bt, pm_bk, pm_at, pm_pc, c43, c72, c100, c112, c124, if_true, if_false, not_true, not_false_iff, true_or, or_true, or_false, false_or]; done) | (refine Or.inr ⟨?_, rfl, rfl, rfl, rfl, rfl⟩; simp only [pm_nw, pm_bt, pm_bk, pm_at, pm_pc, c43, c72, c100, c112, c124, if_true, if_false, not_true, not_false_iff, true_or, or_true, or_false, false_or]; done))
          · skip
            refine lv_iconst (v := nI 1) hx hb dd_M_keep_127 (by decide) ?_
            refine lv_goto (tgt := 181) hx hb dd_M_keep_128 (by decide) ?_
            refine lv_istore (lv' := [(13, .int (nI 1)), (12, .int ((((bc ((402 * n) + j)) >>> ((nI (16 * lc)).toInt64 &&& 63)) &&& (65535 : Int64)).toInt32)), (11, .int (nI (16 * lc))), (10, .int (nI ((402 * n) + j))), (9, .int (nI (((1608 * (n % 2)) + (4 * j)) + lc))), (0, .ref o), (1, .int (nI j)), (2, .int (nI n)), (3, .long oo), (5, .int ab), (6, .long dd), (8, .int (nI ft))]) hx hb dd_M_keep_181 hl (by decide) rfl (fun ls hl => ?_)
            refine lv_iload hx hb dd_M_keep_183 (lv_at hl 0 rfl) ?_
            refine lv_if_ne (tgt := 189) hx hb dd_M_keep_185 (by decide) (fun _ => ?_) (fun h => absurd h (by decide +kernel))
            refine lv_aload_n hx hb dd_M_keep_189 rfl (lv_at hl 5 rfl) ?_
            refine va_get (D := D) (ci := 0) (v := .ref a9) (C := rr_M) (T := tt_M) (N := 37) hx hb hts hin0 hown hK hP 0 kg_6_0 rfl 14 (by decide) lk2 (fun _ h9 => h9) rfl dd_M_keep_190 ?_
            refine lv_iload hx hb dd_M_keep_193 (lv_at hl 4 rfl) ?_
            refine lv_iconst (v := nI 1) hx hb dd_M_keep_195 (by decide) ?_
            refine kx_zast (q0 := 1) (t0 := 2) hx hb dd_M_keep_196 hK hP hD hS kg_6_1 rfl (by omega) (by omega) (by decide) (fun H locs hP hD hS => ?_)
            have hP : va_P D vwCl [(o, .inr (0, [.int (nI th), .int (nI cn), .ref a0, .ref a1, .ref a2, .ref a3, .ref a4, .ref a5, .int (nI mn), .ref a6, .ref a7, .int (nI ps), .int (nI bk), .ref a8, .ref a9, .ref a10, .ref a11, .ref a12, .ref a13, .ref a14, .ref a15, .int (nI kf), .int lb, .int (nI lc), .long lo, .int (nI el), .int (nI ec), .long eo, .int eb, .long ed, .int (nI mp), .int (nI ml), .long md, .long mo, .int mb, .ref a16, .ref a17])), (a9, .inl (cZ, 3216, .inl (upd iz (((1608 * (n % 2)) + (4 * j)) + lc) (nI 1)))), (a10, .inl (cJ, 3216, .inr (.inl ou))), (a11, .inl (cI, 3216, .inl ba)), (a12, .inl (cJ, 3216, .inr (.inl de))), (a13, .inl (cJ, 161604, .inr (.inl bc)))] H := kx_cP kz_6_1 hP
            have hD : va_D A [(o, .inr (0, [.int (nI th), .int (nI cn), .ref a0, .ref a1, .ref a2, .ref a3, .ref a4, .ref a5, .int (nI mn), .ref a6, .ref a7, .int (nI ps), .int (nI bk), .ref a8, .ref a9, .ref a10, .ref a11, .ref a12, .ref a13, .ref a14, .ref a15, .int (nI kf), .int lb, .int (nI lc), .long lo, .int (nI el), .int (nI ec), .long eo, .int eb, .long ed, .int (nI mp), .int (nI ml), .long md, .long mo, .int mb, .ref a16, .ref a17])), (a9, .inl (cZ, 3216, .inl (upd iz (((1608 * (n % 2)) + (4 * j)) + lc) (nI 1)))), (a10, .inl (cJ, 3216, .inr (.inl ou))), (a11, .inl (cI, 3216, .inl ba)), (a12, .inl (cJ, 3216, .inr (.inl de))), (a13, .inl (cJ, 161604, .inr (.inl bc)))] := kx_cD kz_6_1 hD
            refine lv_aload_n hx hb dd_M_keep_197 rfl (lv_at hl 5 rfl) ?_
            refine va_get (D := D) (ci := 0) (v := .ref a10) (C := rr_M) (T := tt_M) (N := 37) hx hb hts hin0 hown hK hP 0 kg_6_0 rfl 15 (by decide) lk3 (fun _ h9 => h9) rfl dd_M_keep_198 ?_
            refine lv_iload hx hb dd_M_keep_201 (lv_at hl 4 rfl) ?_
            refine lv_lload_n hx hb dd_M_keep_203 rfl (lv_at hl 8 rfl) ?_
            refine kx_last (q0 := 2) (t0 := 1) hx hb dd_M_keep_204 hK hP hD hS kg_6_2 rfl (by omega) (by omega) (fun H locs hP hD hS => ?_)
            have hP : va_P D vwCl [(o, .inr (0, [.int (nI th), .int (nI cn), .ref a0, .ref a1, .ref a2, .ref a3, .ref a4, .ref a5, .int (nI mn), .ref a6, .ref a7, .int (nI ps), .int (nI bk), .ref a8, .ref a9, .ref a10, .ref a11, .ref a12, .ref a13, .ref a14, .ref a15, .int (nI kf), .int lb, .int (nI lc), .long lo, .int (nI el), .int (nI ec), .long eo, .int eb, .long ed, .int (nI mp), .int (nI ml), .long md, .long mo, .int mb, .ref a16, .ref a17])), (a9, .inl (cZ, 3216, .inl (upd iz (((1608 * (n % 2)) + (4 * j)) + lc) (nI 1)))), (a10, .inl (cJ, 3216, .inr (.inl (vp_updL ou (((1608 * (n % 2)) + (4 * j)) + lc) oo)))), (a11, .inl (cI, 3216, .inl ba)), (a12, .inl (cJ, 3216, .inr (.inl de))), (a13, .inl (cJ, 161604, .inr (.inl bc)))] H := kx_cP kz_6_2 hP
            have hD : va_D A [(o, .inr (0, [.int (nI th), .int (nI cn), .ref a0, .ref a1, .ref a2, .ref a3, .ref a4, .ref a5, .int (nI mn), .ref a6, .ref a7, .int (nI ps), .int (nI bk), .ref a8, .ref a9, .ref a10, .ref a11, .ref a12, .ref a13, .ref a14, .ref a15, .int (nI kf), .int lb, .int (nI lc), .long lo, .int (nI el), .int (nI ec), .long eo, .int eb, .long ed, .int (nI mp), .int (nI ml), .long md, .long mo, .int mb, .ref a16, .ref a17])), (a9, .inl (cZ, 3216, .inl (upd iz (((1608 * (n % 2)) + (4 * j)) + lc) (nI 1)))), (a10, .inl (cJ, 3216, .inr (.inl (vp_updL ou (((1608 * (n % 2)) + (4 * j)) + lc) oo)))), (a11, .inl (cI, 3216, .inl ba)), (a12, .inl (cJ, 3216, .inr (.inl de))), (a13, .inl (cJ, 161604, .inr (.inl bc)))] := kx_cD kz_6_2 hD
            refine lv_aload_n hx hb dd_M_keep_205 rfl (lv_at hl 5 rfl) ?_
            refine va_get (D := D) (ci := 0) (v := .ref a11) (C := rr_M) (T := tt_M) (N := 37) hx hb hts hin0 hown hK hP 0 kg_6_0 rfl 16 (by decide) lk4 (fun _ h9 => h9) rfl dd_M_keep_206 ?_
            refine lv_iload hx hb dd_M_keep_209 (lv_at hl 4 rfl) ?_
            refine lv_iload hx hb dd_M_keep_211 (lv_at hl 9 rfl) ?_
            refine kx_iast (q0 := 3) (t0 := 0) hx hb dd_M_keep_213 hK hP hD hS kg_6_3 rfl (by omega) (by omega) (fun H locs hP hD hS => ?_)
            have hP : va_P D vwCl [(o, .inr (0, [.int (nI th), .int (nI cn), .ref a0, .ref a1, .ref a2, .ref a3, .ref a4, .ref a5, .int (nI mn), .ref a6, .ref a7, .int (nI ps), .int (nI bk), .ref a8, .ref a9, .ref a10, .ref a11, .ref a12, .ref a13, .ref a14, .ref a15, .int (nI kf), .int lb, .int (nI lc), .long lo, .int (nI el), .int (nI ec), .long eo, .int eb, .long ed, .int (nI mp), .int (nI ml), .long md, .long mo, .int mb, .ref a16, .ref a17])), (a9, .inl (cZ, 3216, .inl (upd iz (((1608 * (n % 2)) + (4 * j)) + lc) (nI 1)))), (a10, .inl (cJ, 3216, .inr (.inl (vp_updL ou (((1608 * (n % 2)) + (4 * j)) + lc) oo)))), (a11, .inl (cI, 3216, .inl (upd ba (((1608 * (n % 2)) + (4 * j)) + lc) ab))), (a12, .inl (cJ, 3216, .inr (.inl de))), (a13, .inl (cJ, 161604, .inr (.inl bc)))] H := kx_cP kz_6_3 hP
            have hD : va_D A [(o, .inr (0, [.int (nI th), .int (nI cn), .ref a0, .ref a1, .ref a2, .ref a3, .ref a4, .ref a5, .int (nI mn), .ref a6, .ref a7, .int (nI ps), .int (nI bk), .ref a8, .ref a9, .ref a10, .ref a11, .ref a12, .ref a13, .ref a14, .ref a15, .int (nI kf), .int lb, .int (nI lc), .long lo, .int (nI el), .int (nI ec), .long eo, .int eb, .long ed, .int (nI mp), .int (nI ml), .long md, .long mo, .int mb, .ref a16, .ref a17])), (a9, .inl (cZ, 3216, .inl (upd iz (((1608 * (n % 2)) + (4 * j)) + lc) (nI 1)))), (a10, .inl (cJ, 3216, .inr (.inl (vp_updL ou (((1608 * (n % 2)) + (4 * j)) + lc) oo)))), (a11, .inl (cI, 3216, .inl (upd ba (((1608 * (n % 2)) + (4 * j)) + lc) ab))), (a12, .inl (cJ, 3216, .inr (.inl de))), (a13, .inl (cJ, 161604, .inr (.inl bc)))] := kx_cD kz_6_3 hD
            refine lv_aload_n hx hb dd_M_keep_214 rfl (lv_at hl 5 rfl) ?_
            refine va_get (D := D) (ci := 0) (v := .ref a12) (C := rr_M) (T := tt_M) (N := 37) hx hb hts hin0 hown hK hP 0 kg_6_0 rfl 17 (by decide) lk5 (fun _ h9 => h9) rfl dd_M_keep_215 ?_
            refine lv_iload hx hb dd_M_keep_218 (lv_at hl 4 rfl) ?_
            refine lv_lload hx hb dd_M_keep_220 (lv_at hl 10 rfl) ?_
            refine kx_last (q0 := 4) (t0 := 1) hx hb dd_M_keep_222 hK hP hD hS kg_6_4 rfl (by omega) (by omega) (fun H locs hP hD hS => ?_)
            have hP : va_P D vwCl [(o, .inr (0, [.int (nI th), .int (nI cn), .ref a0, .ref a1, .ref a2, .ref a3, .ref a4, .ref a5, .int (nI mn), .ref a6, .ref a7, .int (nI ps), .int (nI bk), .ref a8, .ref a9, .ref a10, .ref a11, .ref a12, .ref a13, .ref a14, .ref a15, .int (nI kf), .int lb, .int (nI lc), .long lo, .int (nI el), .int (nI ec), .long eo, .int eb, .long ed, .int (nI mp), .int (nI ml), .long md, .long mo, .int mb, .ref a16, .ref a17])), (a9, .inl (cZ, 3216, .inl (upd iz (((1608 * (n % 2)) + (4 * j)) + lc) (nI 1)))), (a10, .inl (cJ, 3216, .inr (.inl (vp_updL ou (((1608 * (n % 2)) + (4 * j)) + lc) oo)))), (a11, .inl (cI, 3216, .inl (upd ba (((1608 * (n % 2)) + (4 * j)) + lc) ab))), (a12, .inl (cJ, 3216, .inr (.inl (vp_updL de (((1608 * (n % 2)) + (4 * j)) + lc) dd)))), (a13, .inl (cJ, 161604, .inr (.inl bc)))] H := kx_cP kz_6_4 hP
            have hD : va_D A [(o, .inr (0, [.int (nI th), .int (nI cn), .ref a0, .ref a1, .ref a2, .ref a3, .ref a4, .ref a5, .int (nI mn), .ref a6, .ref a7, .int (nI ps), .int (nI bk), .ref a8, .ref a9, .ref a10, .ref a11, .ref a12, .ref a13, .ref a14, .ref a15, .int (nI kf), .int lb, .int (nI lc), .long lo, .int (nI el), .int (nI ec), .long eo, .int eb, .long ed, .int (nI mp), .int (nI ml), .long md, .long mo, .int mb, .ref a16, .ref a17])), (a9, .inl (cZ, 3216, .inl (upd iz (((1608 * (n % 2)) + (4 * j)) + lc) (nI 1)))), (a10, .inl (cJ, 3216, .inr (.inl (vp_updL ou (((1608 * (n % 2)) + (4 * j)) + lc) oo)))), (a11, .inl (cI, 3216, .inl (upd ba (((1608 * (n % 2)) + (4 * j)) + lc) ab))), (a12, .inl (cJ, 3216, .inr (.inl (vp_updL de (((1608 * (n % 2)) + (4 * j)) + lc) dd)))), (a13, .inl (cJ, 161604, .inr (.inl bc)))] := kx_cD kz_6_4 hD
            refine lv_aload_n hx hb dd_M_keep_223 rfl (lv_at hl 5 rfl) ?_
            refine va_get (D := D) (ci := 0) (v := .ref a13) (C := rr_M) (T := tt_M) (N := 37) hx hb hts hin0 hown hK hP 0 kg_6_0 rfl 18 (by decide) lk6 (fun _ h9 => h9) rfl dd_M_keep_224 ?_
            refine lv_iload hx hb dd_M_keep_227 (lv_at hl 3 rfl) ?_
            refine lv_aload_n hx hb dd_M_keep_229 rfl (lv_at hl 5 rfl) ?_
            refine va_get (D := D) (ci := 0) (v := .ref a13) (C := rr_M) (T := tt_M) (N := 37) hx hb hts hin0 hown hK hP 0 kg_6_0 rfl 18 (by decide) lk6 (fun _ h9 => h9) rfl dd_M_keep_230 ?_
            refine lv_iload hx hb dd_M_keep_233 (lv_at hl 3 rfl) ?_
            refine kx_lald (q0 := 5) (t0 := 1) hx hb dd_M_keep_235 hK hP kg_6_5 rfl (by omega) (by omega) ?_
            refine lv_ldc2 (v := (65535)) hx hb hown lk7 dd_M_keep_236 ?_
            refine lv_iload hx hb dd_M_keep_239 (lv_at hl 2 rfl) ?_
            refine lv_lshl hx hb dd_M_keep_241 rfl ?_
            refine lv_ldc2 (v := (-1)) hx hb hown lk8 dd_M_keep_242 ?_
            refine lv_lxor hx hb dd_M_keep_245 ?_
            refine lv_land hx hb dd_M_keep_246 ?_
            refine lv_iload hx hb dd_M_keep_247 (lv_at hl 11 rfl) ?_
            refine lv_i2l hx hb dd_M_keep_249 rfl ?_
            refine lv_iload hx hb dd_M_keep_250 (lv_at hl 2 rfl) ?_
            refine lv_lshl hx hb dd_M_keep_252 rfl ?_
            refine lv_lor hx hb dd_M_keep_253 ?_
            refine kx_last (q0 := 5) (t0 := 1) hx hb dd_M_keep_254 hK hP hD hS kg_6_5 rfl (by omega) (by omega) (fun H locs hP hD hS => ?_)
            have hP : va_P D vwCl [(o, .inr (0, [.int (nI th), .int (nI cn), .ref a0, .ref a1, .ref a2, .ref a3, .ref a4, .ref a5, .int (nI mn), .ref a6, .ref a7, .int (nI ps), .int (nI bk), .ref a8, .ref a9, .ref a10, .ref a11, .ref a12, .ref a13, .ref a14, .ref a15, .int (nI kf), .int lb, .int (nI lc), .long lo, .int (nI el), .int (nI ec), .long eo, .int eb, .long ed, .int (nI mp), .int (nI ml), .long md, .long mo, .int mb, .ref a16, .ref a17])), (a9, .inl (cZ, 3216, .inl (upd iz (((1608 * (n % 2)) + (4 * j)) + lc) (nI 1)))), (a10, .inl (cJ, 3216, .inr (.inl (vp_updL ou (((1608 * (n % 2)) + (4 * j)) + lc) oo)))), (a11, .inl (cI, 3216, .inl (upd ba (((1608 * (n % 2)) + (4 * j)) + lc) ab))), (a12, .inl (cJ, 3216, .inr (.inl (vp_updL de (((1608 * (n % 2)) + (4 * j)) + lc) dd)))), (a13, .inl (cJ, 161604, .inr (.inl (vp_updL bc ((402 * n) + j) (((bc ((402 * n) + j)) &&& (((65535 : Int64) <<< ((nI (16 * lc)).toInt64 &&& 63)) ^^^ (-1 : Int64))) ||| (((nI ft).toInt64) <<< ((nI (16 * lc)).toInt64 &&& 63)))))))] H := kx_cP kz_6_5 hP
            have hD : va_D A [(o, .inr (0, [.int (nI th), .int (nI cn), .ref a0, .ref a1, .ref a2, .ref a3, .ref a4, .ref a5, .int (nI mn), .ref a6, .ref a7, .int (nI ps), .int (nI bk), .ref a8, .ref a9, .ref a10, .ref a11, .ref a12, .ref a13, .ref a14, .ref a15, .int (nI kf), .int lb, .int (nI lc), .long lo, .int (nI el), .int (nI ec), .long eo, .int eb, .long ed, .int (nI mp), .int (nI ml), .long md, .long mo, .int mb, .ref a16, .ref a17])), (a9, .inl (cZ, 3216, .inl (upd iz (((1608 * (n % 2)) + (4 * j)) + lc) (nI 1)))), (a10, .inl (cJ, 3216, .inr (.inl (vp_updL ou (((1608 * (n % 2)) + (4 * j)) + lc) oo)))), (a11, .inl (cI, 3216, .inl (upd ba (((1608 * (n % 2)) + (4 * j)) + lc) ab))), (a12, .inl (cJ, 3216, .inr (.inl (vp_updL de (((1608 * (n % 2)) + (4 * j)) + lc) dd)))), (a13, .inl (cJ, 161604, .inr (.inl (vp_updL bc ((402 * n) + j) (((bc ((402 * n) + j)) &&& (((65535 : Int64) <<< ((nI (16 * lc)).toInt64 &&& 63)) ^^^ (-1 : Int64))) ||| (((nI ft).toInt64) <<< ((nI (16 * lc)).toInt64 &&& 63)))))))] := kx_cD kz_6_5 hD
            rw [hQ]
            exact kx_vret hx hb hr hlocks hK hN hS dd_M_keep_255 (upd iz (((1608 * (n % 2)) + (4 * j)) + lc) (nI 1), vp_updL ou (((1608 * (n % 2)) + (4 * j)) + lc) oo, upd ba (((1608 * (n % 2)) + (4 * j)) + lc) ab, vp_updL de (((1608 * (n % 2)) + (4 * j)) + lc) dd, (vp_updL bc ((402 * n) + j) (((bc ((402 * n) + j)) &&& (((65535 : Int64) <<< ((nI (16 * lc)).toInt64 &&& 63)) ^^^ (-1 : Int64))) ||| (((nI ft).toInt64) <<< ((nI (16 * lc)).toInt64 &&& 63))))) hP hD (by first | (refine Or.inl ⟨?_, rfl, rfl, rfl, rfl, rfl⟩; simp only [pm_nw, pm_bt, pm_bk, pm_at, pm_pc, c43, c72, c100, c112, c124, if_true, if_false, not_true, not_false_iff, true_or, or_true, or_false, false_or]; done) | (refine Or.inr ⟨?_, rfl, rfl, rfl, rfl, rfl⟩; simp only [pm_nw, pm_bt, pm_bk, pm_at, pm_pc, c43, c72, c100, c112, c124, if_true, if_false, not_true, not_false_iff, true_or, or_true, or_false, false_or]; done))
    · skip
      have c72 : ¬ (oo = (ou (((1608 * (n % 2)) + (4 * j)) + lc))) := fun h => c72 ((lg_cmp_eq _ _).mpr h)
      refine lv_lload_n hx hb dd_M_keep_75 rfl (lv_at hl 7 rfl) ?_
      refine lv_aload_n hx hb dd_M_keep_76 rfl (lv_at hl 4 rfl) ?_
      refine va_get (D := D) (ci := 0) (v := .ref a10) (C := rr_M) (T := tt_M) (N := 37) hx hb hts hin0 hown hK hP 0 kg_6_0 rfl 15 (by decide) lk3 (fun _ h9 => h9) rfl dd_M_keep_77 ?_
      refine lv_iload hx hb dd_M_keep_80 (lv_at hl 3 rfl) ?_
      refine kx_lald (q0 := 2) (t0 := 1) hx hb dd_M_keep_82 hK hP kg_6_2 rfl (by omega) (by omega) ?_
      refine W.lcmp hx hb dd_M_keep_83 ?_
      refine lv_if_ge (tgt := 91) hx hb dd_M_keep_84 (by decide) (fun c84 => ?_) (fun c84 => ?_)
      · skip
        have c84 := (lg_cmp_ge _ _).mp c84
        refine lv_iconst (v := nI 0) hx hb dd_M_keep_91 (by decide) ?_
        refine lv_goto (tgt := 181) hx hb dd_M_keep_92 (by decide) ?_
        refine lv_istore (lv' := [(13, .int (nI 0)), (12, .int ((((bc ((402 * n) + j)) >>> ((nI (16 * lc)).toInt64 &&& 63)) &&& (65535 : Int64)).toInt32)), (11, .int (nI (16 * lc))), (10, .int (nI ((402 * n) + j))), (9, .int (nI (((1608 * (n % 2)) + (4 * j)) + lc))), (0, .ref o), (1, .int (nI j)), (2, .int (nI n)), (3, .long oo), (5, .int ab), (6, .long dd), (8, .int (nI ft))]) hx hb dd_M_keep_181 hl (by decide) rfl (fun ls hl => ?_)
        refine lv_iload hx hb dd_M_keep_183 (lv_at hl 0 rfl) ?_
        refine lv_if_ne (tgt := 189) hx hb dd_M_keep_185 (by decide) (fun h => absurd (by decide +kernel) h) (fun _ => ?_)
        rw [hQ]
        exact kx_vret hx hb hr hlocks hK hN hS dd_M_keep_188 (iz, ou, ba, de, bc) hP hD (by first | (refine Or.inl ⟨?_, rfl, rfl, rfl, rfl, rfl⟩; simp only [pm_nw, pm_bt, pm_bk, pm_at, pm_pc, c43, c72, c84, if_true, if_false, not_true, not_false_iff, true_or, or_true, or_false, false_or]; done) | (refine Or.inr ⟨?_, rfl, rfl, rfl, rfl, rfl⟩; simp only [pm_nw, pm_bt, pm_bk, pm_at, pm_pc, c43, c72, c84, if_true, if_false, not_true, not_false_iff, true_or, or_true, or_false, false_or]; done))
      · skip
        have c84 : ¬ ((ou (((1608 * (n % 2)) + (4 * j)) + lc)) ≤ oo) := fun h => c84 ((lg_cmp_ge _ _).mpr h)
        refine lv_iconst (v := nI 1) hx hb dd_M_keep_87 (by decide) ?_
        refine lv_goto (tgt := 181) hx hb dd_M_keep_88 (by decide) ?_
        refine lv_istore (lv' := [(13, .int (nI 1)), (12, .int ((((bc ((402 * n) + j)) >>> ((nI (16 * lc)).toInt64 &&& 63)) &&& (65535 : Int64)).toInt32)), (11, .int (nI (16 * lc))), (10, .int (nI ((402 * n) + j))), (9, .int (nI (((1608 * (n % 2)) + (4 * j)) + lc))), (0, .ref o), (1, .int (nI j)), (2, .int (nI n)), (3, .long oo), (5, .int ab), (6, .long dd), (8, .int (nI ft))]) hx hb dd_M_keep_181 hl (by decide) rfl (fun ls hl => ?_)
        refine lv_iload hx hb dd_M_keep_183 (lv_at hl 0 rfl) ?_
        refine lv_if_ne (tgt := 189) hx hb dd_M_keep_185 (by decide) (fun _ => ?_) (fun h => absurd h (by decide +kernel))
        refine lv_aload_n hx hb dd_M_keep_189 rfl (lv_at hl 5 rfl) ?_
        refine va_get (D := D) (ci := 0) (v := .ref a9) (C := rr_M) (T := tt_M) (N := 37) hx hb hts hin0 hown hK hP 0 kg_6_0 rfl 14 (by decide) lk2 (fun _ h9 => h9) rfl dd_M_keep_190 ?_
        refine lv_iload hx hb dd_M_keep_193 (lv_at hl 4 rfl) ?_
        refine lv_iconst (v := nI 1) hx hb dd_M_keep_195 (by decide) ?_
        refine kx_zast (q0 := 1) (t0 := 2) hx hb dd_M_keep_196 hK hP hD hS kg_6_1 rfl (by omega) (by omega) (by decide) (fun H locs hP hD hS => ?_)
        have hP : va_P D vwCl [(o, .inr (0, [.int (nI th), .int (nI cn), .ref a0, .ref a1, .ref a2, .ref a3, .ref a4, .ref a5, .int (nI mn), .ref a6, .ref a7, .int (nI ps), .int (nI bk), .ref a8, .ref a9, .ref a10, .ref a11, .ref a12, .ref a13, .ref a14, .ref a15, .int (nI kf), .int lb, .int (nI lc), .long lo, .int (nI el), .int (nI ec), .long eo, .int eb, .long ed, .int (nI mp), .int (nI ml), .long md, .long mo, .int mb, .ref a16, .ref a17])), (a9, .inl (cZ, 3216, .inl (upd iz (((1608 * (n % 2)) + (4 * j)) + lc) (nI 1)))), (a10, .inl (cJ, 3216, .inr (.inl ou))), (a11, .inl (cI, 3216, .inl ba)), (a12, .inl (cJ, 3216, .inr (.inl de))), (a13, .inl (cJ, 161604, .inr (.inl bc)))] H := kx_cP kz_6_1 hP
        have hD : va_D A [(o, .inr (0, [.int (nI th), .int (nI cn), .ref a0, .ref a1, .ref a2, .ref a3, .ref a4, .ref a5, .int (nI mn), .ref a6, .ref a7, .int (nI ps), .int (nI bk), .ref a8, .ref a9, .ref a10, .ref a11, .ref a12, .ref a13, .ref a14, .ref a15, .int (nI kf), .int lb, .int (nI lc), .long lo, .int (nI el), .int (nI ec), .long eo, .int eb, .long ed, .int (nI mp), .int (nI ml), .long md, .long mo, .int mb, .ref a16, .ref a17])), (a9, .inl (cZ, 3216, .inl (upd iz (((1608 * (n % 2)) + (4 * j)) + lc) (nI 1)))), (a10, .inl (cJ, 3216, .inr (.inl ou))), (a11, .inl (cI, 3216, .inl ba)), (a12, .inl (cJ, 3216, .inr (.inl de))), (a13, .inl (cJ, 161604, .inr (.inl bc)))] := kx_cD kz_6_1 hD
        refine lv_aload_n hx hb dd_M_keep_197 rfl (lv_at hl 5 rfl) ?_
        refine va_get (D := D) (ci := 0) (v := .ref a10) (C := rr_M) (T := tt_M) (N := 37) hx hb hts hin0 hown hK hP 0 kg_6_0 rfl 15 (by decide) lk3 (fun _ h9 => h9) rfl dd_M_keep_198 ?_
        refine lv_iload hx hb dd_M_keep_201 (lv_at hl 4 rfl) ?_
        refine lv_lload_n hx hb dd_M_keep_203 rfl (lv_at hl 8 rfl) ?_
        refine kx_last (q0 := 2) (t0 := 1) hx hb dd_M_keep_204 hK hP hD hS kg_6_2 rfl (by omega) (by omega) (fun H locs hP hD hS => ?_)
        have hP : va_P D vwCl [(o, .inr (0, [.int (nI th), .int (nI cn), .ref a0, .ref a1, .ref a2, .ref a3, .ref a4, .ref a5, .int (nI mn), .ref a6, .ref a7, .int (nI ps), .int (nI bk), .ref a8, .ref a9, .ref a10, .ref a11, .ref a12, .ref a13, .ref a14, .ref a15, .int (nI kf), .int lb, .int (nI lc), .long lo, .int (nI el), .int (nI ec), .long eo, .int eb, .long ed, .int (nI mp), .int (nI ml), .long md, .long mo, .int mb, .ref a16, .ref a17])), (a9, .inl (cZ, 3216, .inl (upd iz (((1608 * (n % 2)) + (4 * j)) + lc) (nI 1)))), (a10, .inl (cJ, 3216, .inr (.inl (vp_updL ou (((1608 * (n % 2)) + (4 * j)) + lc) oo)))), (a11, .inl (cI, 3216, .inl ba)), (a12, .inl (cJ, 3216, .inr (.inl de))), (a13, .inl (cJ, 161604, .inr (.inl bc)))] H := kx_cP kz_6_2 hP
        have hD : va_D A [(o, .inr (0, [.int (nI th), .int (nI cn), .ref a0, .ref a1, .ref a2, .ref a3, .ref a4, .ref a5, .int (nI mn), .ref a6, .ref a7, .int (nI ps), .int (nI bk), .ref a8, .ref a9, .ref a10, .ref a11, .ref a12, .ref a13, .ref a14, .ref a15, .int (nI kf), .int lb, .int (nI lc), .long lo, .int (nI el), .int (nI ec), .long eo, .int eb, .long ed, .int (nI mp), .int (nI ml), .long md, .long mo, .int mb, .ref a16, .ref a17])), (a9, .inl (cZ, 3216, .inl (upd iz (((1608 * (n % 2)) + (4 * j)) + lc) (nI 1)))), (a10, .inl (cJ, 3216, .inr (.inl (vp_updL ou (((1608 * (n % 2)) + (4 * j)) + lc) oo)))), (a11, .inl (cI, 3216, .inl ba)), (a12, .inl (cJ, 3216, .inr (.inl de))), (a13, .inl (cJ, 161604, .inr (.inl bc)))] := kx_cD kz_6_2 hD
        refine lv_aload_n hx hb dd_M_keep_205 rfl (lv_at hl 5 rfl) ?_
        refine va_get (D := D) (ci := 0) (v := .ref a11) (C := rr_M) (T := tt_M) (N := 37) hx hb hts hin0 hown hK hP 0 kg_6_0 rfl 16 (by decide) lk4 (fun _ h9 => h9) rfl dd_M_keep_206 ?_
        refine lv_iload hx hb dd_M_keep_209 (lv_at hl 4 rfl) ?_
        refine lv_iload hx hb dd_M_keep_211 (lv_at hl 9 rfl) ?_
        refine kx_iast (q0 := 3) (t0 := 0) hx hb dd_M_keep_213 hK hP hD hS kg_6_3 rfl (by omega) (by omega) (fun H locs hP hD hS => ?_)
        have hP : va_P D vwCl [(o, .inr (0, [.int (nI th), .int (nI cn), .ref a0, .ref a1, .ref a2, .ref a3, .ref a4, .ref a5, .int (nI mn), .ref a6, .ref a7, .int (nI ps), .int (nI bk), .ref a8, .ref a9, .ref a10, .ref a11, .ref a12, .ref a13, .ref a14, .ref a15, .int (nI kf), .int lb, .int (nI lc), .long lo, .int (nI el), .int (nI ec), .long eo, .int eb, .long ed, .int (nI mp), .int (nI ml), .long md, .long mo, .int mb, .ref a16, .ref a17])), (a9, .inl (cZ, 3216, .inl (upd iz (((1608 * (n % 2)) + (4 * j)) + lc) (nI 1)))), (a10, .inl (cJ, 3216, .inr (.inl (vp_updL ou (((1608 * (n % 2)) + (4 * j)) + lc) oo)))), (a11, .inl (cI, 3216, .inl (upd ba (((1608 * (n % 2)) + (4 * j)) + lc) ab))), (a12, .inl (cJ, 3216, .inr (.inl de))), (a13, .inl (cJ, 161604, .inr (.inl bc)))] H := kx_cP kz_6_3 hP
        have hD : va_D A [(o, .inr (0, [.int (nI th), .int (nI cn), .ref a0, .ref a1, .ref a2, .ref a3, .ref a4, .ref a5, .int (nI mn), .ref a6, .ref a7, .int (nI ps), .int (nI bk), .ref a8, .ref a9, .ref a10, .ref a11, .ref a12, .ref a13, .ref a14, .ref a15, .int (nI kf), .int lb, .int (nI lc), .long lo, .int (nI el), .int (nI ec), .long eo, .int eb, .long ed, .int (nI mp), .int (nI ml), .long md, .long mo, .int mb, .ref a16, .ref a17])), (a9, .inl (cZ, 3216, .inl (upd iz (((1608 * (n % 2)) + (4 * j)) + lc) (nI 1)))), (a10, .inl (cJ, 3216, .inr (.inl (vp_updL ou (((1608 * (n % 2)) + (4 * j)) + lc) oo)))), (a11, .inl (cI, 3216, .inl (upd ba (((1608 * (n % 2)) + (4 * j)) + lc) ab))), (a12, .inl (cJ, 3216, .inr (.inl de))), (a13, .inl (cJ, 161604, .inr (.inl bc)))] := kx_cD kz_6_3 hD
        refine lv_aload_n hx hb dd_M_keep_214 rfl (lv_at hl 5 rfl) ?_
        refine va_get (D := D) (ci := 0) (v := .ref a12) (C := rr_M) (T := tt_M) (N := 37) hx hb hts hin0 hown hK hP 0 kg_6_0 rfl 17 (by decide) lk5 (fun _ h9 => h9) rfl dd_M_keep_215 ?_
        refine lv_iload hx hb dd_M_keep_218 (lv_at hl 4 rfl) ?_
        refine lv_lload hx hb dd_M_keep_220 (lv_at hl 10 rfl) ?_
        refine kx_last (q0 := 4) (t0 := 1) hx hb dd_M_keep_222 hK hP hD hS kg_6_4 rfl (by omega) (by omega) (fun H locs hP hD hS => ?_)
        have hP : va_P D vwCl [(o, .inr (0, [.int (nI th), .int (nI cn), .ref a0, .ref a1, .ref a2, .ref a3, .ref a4, .ref a5, .int (nI mn), .ref a6, .ref a7, .int (nI ps), .int (nI bk), .ref a8, .ref a9, .ref a10, .ref a11, .ref a12, .ref a13, .ref a14, .ref a15, .int (nI kf), .int lb, .int (nI lc), .long lo, .int (nI el), .int (nI ec), .long eo, .int eb, .long ed, .int (nI mp), .int (nI ml), .long md, .long mo, .int mb, .ref a16, .ref a17])), (a9, .inl (cZ, 3216, .inl (upd iz (((1608 * (n % 2)) + (4 * j)) + lc) (nI 1)))), (a10, .inl (cJ, 3216, .inr (.inl (vp_updL ou (((1608 * (n % 2)) + (4 * j)) + lc) oo)))), (a11, .inl (cI, 3216, .inl (upd ba (((1608 * (n % 2)) + (4 * j)) + lc) ab))), (a12, .inl (cJ, 3216, .inr (.inl (vp_updL de (((1608 * (n % 2)) + (4 * j)) + lc) dd)))), (a13, .inl (cJ, 161604, .inr (.inl bc)))] H := kx_cP kz_6_4 hP
        have hD : va_D A [(o, .inr (0, [.int (nI th), .int (nI cn), .ref a0, .ref a1, .ref a2, .ref a3, .ref a4, .ref a5, .int (nI mn), .ref a6, .ref a7, .int (nI ps), .int (nI bk), .ref a8, .ref a9, .ref a10, .ref a11, .ref a12, .ref a13, .ref a14, .ref a15, .int (nI kf), .int lb, .int (nI lc), .long lo, .int (nI el), .int (nI ec), .long eo, .int eb, .long ed, .int (nI mp), .int (nI ml), .long md, .long mo, .int mb, .ref a16, .ref a17])), (a9, .inl (cZ, 3216, .inl (upd iz (((1608 * (n % 2)) + (4 * j)) + lc) (nI 1)))), (a10, .inl (cJ, 3216, .inr (.inl (vp_updL ou (((1608 * (n % 2)) + (4 * j)) + lc) oo)))), (a11, .inl (cI, 3216, .inl (upd ba (((1608 * (n % 2)) + (4 * j)) + lc) ab))), (a12, .inl (cJ, 3216, .inr (.inl (vp_updL de (((1608 * (n % 2)) + (4 * j)) + lc) dd)))), (a13, .inl (cJ, 161604, .inr (.inl bc)))] := kx_cD kz_6_4 hD
        refine lv_aload_n hx hb dd_M_keep_223 rfl (lv_at hl 5 rfl) ?_
        refine va_get (D := D) (ci := 0) (v := .ref a13) (C := rr_M) (T := tt_M) (N := 37) hx hb hts hin0 hown hK hP 0 kg_6_0 rfl 18 (by decide) lk6 (fun _ h9 => h9) rfl dd_M_keep_224 ?_
        refine lv_iload hx hb dd_M_keep_227 (lv_at hl 3 rfl) ?_
        refine lv_aload_n hx hb dd_M_keep_229 rfl (lv_at hl 5 rfl) ?_
        refine va_get (D := D) (ci := 0) (v := .ref a13) (C := rr_M) (T := tt_M) (N := 37) hx hb hts hin0 hown hK hP 0 kg_6_0 rfl 18 (by decide) lk6 (fun _ h9 => h9) rfl dd_M_keep_230 ?_
        refine lv_iload hx hb dd_M_keep_233 (lv_at hl 3 rfl) ?_
        refine kx_lald (q0 := 5) (t0 := 1) hx hb dd_M_keep_235 hK hP kg_6_5 rfl (by omega) (by omega) ?_
        refine lv_ldc2 (v := (65535)) hx hb hown lk7 dd_M_keep_236 ?_
        refine lv_iload hx hb dd_M_keep_239 (lv_at hl 2 rfl) ?_
        refine lv_lshl hx hb dd_M_keep_241 rfl ?_
        refine lv_ldc2 (v := (-1)) hx hb hown lk8 dd_M_keep_242 ?_
        refine lv_lxor hx hb dd_M_keep_245 ?_
        refine lv_land hx hb dd_M_keep_246 ?_
        refine lv_iload hx hb dd_M_keep_247 (lv_at hl 11 rfl) ?_
        refine lv_i2l hx hb dd_M_keep_249 rfl ?_
        refine lv_iload hx hb dd_M_keep_250 (lv_at hl 2 rfl) ?_
        refine lv_lshl hx hb dd_M_keep_252 rfl ?_
        refine lv_lor hx hb dd_M_keep_253 ?_
        refine kx_last (q0 := 5) (t0 := 1) hx hb dd_M_keep_254 hK hP hD hS kg_6_5 rfl (by omega) (by omega) (fun H locs hP hD hS => ?_)
        have hP : va_P D vwCl [(o, .inr (0, [.int (nI th), .int (nI cn), .ref a0, .ref a1, .ref a2, .ref a3, .ref a4, .ref a5, .int (nI mn), .ref a6, .ref a7, .int (nI ps), .int (nI bk), .ref a8, .ref a9, .ref a10, .ref a11, .ref a12, .ref a13, .ref a14, .ref a15, .int (nI kf), .int lb, .int (nI lc), .long lo, .int (nI el), .int (nI ec), .long eo, .int eb, .long ed, .int (nI mp), .int (nI ml), .long md, .long mo, .int mb, .ref a16, .ref a17])), (a9, .inl (cZ, 3216, .inl (upd iz (((1608 * (n % 2)) + (4 * j)) + lc) (nI 1)))), (a10, .inl (cJ, 3216, .inr (.inl (vp_updL ou (((1608 * (n % 2)) + (4 * j)) + lc) oo)))), (a11, .inl (cI, 3216, .inl (upd ba (((1608 * (n % 2)) + (4 * j)) + lc) ab))), (a12, .inl (cJ, 3216, .inr (.inl (vp_updL de (((1608 * (n % 2)) + (4 * j)) + lc) dd)))), (a13, .inl (cJ, 161604, .inr (.inl (vp_updL bc ((402 * n) + j) (((bc ((402 * n) + j)) &&& (((65535 : Int64) <<< ((nI (16 * lc)).toInt64 &&& 63)) ^^^ (-1 : Int64))) ||| (((nI ft).toInt64) <<< ((nI (16 * lc)).toInt64 &&& 63)))))))] H := kx_cP kz_6_5 hP
        have hD : va_D A [(o, .inr (0, [.int (nI th), .int (nI cn), .ref a0, .ref a1, .ref a2, .ref a3, .ref a4, .ref a5, .int (nI mn), .ref a6, .ref a7, .int (nI ps), .int (nI bk), .ref a8, .ref a9, .ref a10, .ref a11, .ref a12, .ref a13, .ref a14, .ref a15, .int (nI kf), .int lb, .int (nI lc), .long lo, .int (nI el), .int (nI ec), .long eo, .int eb, .long ed, .int (nI mp), .int (nI ml), .long md, .long mo, .int mb, .ref a16, .ref a17])), (a9, .inl (cZ, 3216, .inl (upd iz (((1608 * (n % 2)) + (4 * j)) + lc) (nI 1)))), (a10, .inl (cJ, 3216, .inr (.inl (vp_updL ou (((1608 * (n % 2)) + (4 * j)) + lc) oo)))), (a11, .inl (cI, 3216, .inl (upd ba (((1608 * (n % 2)) + (4 * j)) + lc) ab))), (a12, .inl (cJ, 3216, .inr (.inl (vp_updL de (((1608 * (n % 2)) + (4 * j)) + lc) dd)))), (a13, .inl (cJ, 161604, .inr (.inl (vp_updL bc ((402 * n) + j) (((bc ((402 * n) + j)) &&& (((65535 : Int64) <<< ((nI (16 * lc)).toInt64 &&& 63)) ^^^ (-1 : Int64))) ||| (((nI ft).toInt64) <<< ((nI (16 * lc)).toInt64 &&& 63)))))))] := kx_cD kz_6_5 hD
        rw [hQ]
        exact kx_vret hx hb hr hlocks hK hN hS dd_M_keep_255 (upd iz (((1608 * (n % 2)) + (4 * j)) + lc) (nI 1), vp_updL ou (((1608 * (n % 2)) + (4 * j)) + lc) oo, upd ba (((1608 * (n % 2)) + (4 * j)) + lc) ab, vp_updL de (((1608 * (n % 2)) + (4 * j)) + lc) dd, (vp_updL bc ((402 * n) + j) (((bc ((402 * n) + j)) &&& (((65535 : Int64) <<< ((nI (16 * lc)).toInt64 &&& 63)) ^^^ (-1 : Int64))) ||| (((nI ft).toInt64) <<< ((nI (16 * lc)).toInt64 &&& 63))))) hP hD (by first | (refine Or.inl ⟨?_, rfl, rfl, rfl, rfl, rfl⟩; simp only [pm_nw, pm_bt, pm_bk, pm_at, pm_pc, c43, c72, c84, if_true, if_false, not_true, not_false_iff, true_or, or_true, or_false, false_or]; done) | (refine Or.inr ⟨?_, rfl, rfl, rfl, rfl, rfl⟩; simp only [pm_nw, pm_bt, pm_bk, pm_at, pm_pc, c43, c72, c84, if_true, if_false, not_true, not_false_iff, true_or, or_true, or_false, false_or]; done))
