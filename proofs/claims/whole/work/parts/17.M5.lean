/-! the reference's setters and getters, in numbers -/
theorem kn_box {x : Int32} {n : Nat} (hn : n < 2 ^ 31) (h0 : ¬ x < nI 0) (h1 : ¬ nI n < x) : x = nI x.toNatClampNeg ∧ x.toNatClampNeg ≤ n := by
  obtain ⟨j, hj, rfl⟩ := nI_of2 (M := nI n) (n := n) (nI_toInt hn) (by rw [← nI_0]; exact h0) (Int32.not_lt.mp h1)
  rw [nI_clamp (by omega)]
  exact ⟨rfl, hj⟩
theorem kn_box1 {x : Int32} {n : Nat} (hn : n < 2 ^ 31) (h0 : ¬ x < nI 1) (h1 : ¬ nI n < x) : x = nI x.toNatClampNeg ∧ 1 ≤ x.toNatClampNeg ∧ x.toNatClampNeg ≤ n := by
  have h00 : ¬ x < nI 0 := fun q => h0 (Int32.lt_trans q (by decide))
  obtain ⟨e, h⟩ := kn_box hn h00 h1
  refine ⟨e, ?_, h⟩
  rcases Nat.eq_zero_or_pos x.toNatClampNeg with z | z
  · rw [z] at e
    rw [e] at h0
    exact absurd (by decide) h0
  · exact z
abbrev pm_in (v lo hi : Int32) : Prop := ¬ v < lo ∧ ¬ hi < v
abbrev pm_wi (v : Int32) : Prop := ¬ v < (-1073741823) ∧ ¬ nI 1073741823 < v
def pm_mo (w : Int32) : Int32 := if w ≤ nI 4 then nI 10000 else if nI 8 ≤ w then nI 10000 else nI 1000000000
abbrev pm_rl (w v : Int32) : Prop := pm_in w (nI 0) (nI 8) ∧ pm_in v (-pm_mo w) (pm_mo w)
abbrev pm_ms (mn : Nat) (k w : Int32) : Prop := pm_in k (nI 1) (nI (mn + 1)) ∧ ¬ nI 256 < k ∧ pm_wi w
abbrev pm_gl (w st od sk : Int32) : Prop := pm_wi w ∧ pm_in st (nI 0) (nI 1073741823) ∧ pm_in od (nI 0) (nI 3) ∧ pm_in sk (nI 0) (nI 1073741823)
abbrev pm_sp (sd w st od sk : Int32) : Prop := pm_in sd (nI 0) (nI 1) ∧ pm_gl w st od sk
abbrev pm_cu (a b u f : Int32) : Prop := pm_wi a ∧ pm_wi b ∧ pm_wi u ∧ pm_in f (nI 0) (nI 7)
def pm_pp (p : Int32) : Int32 := if (-10000) ≤ p then (if p ≤ nI 10000 then p else nI 10000) else (-10000)
def pm_li (ml : Nat) (mr : Nat → Int32) (mq : Nat → Int64) (k w : Int32) : Int32 := if pm_in k (nI 1) (nI ml) ∧ pm_in w (nI 0) (nI 4) then (if nI 4 ≤ w then (if mq k.toNatClampNeg ≤ 2147483647 then (mq k.toNatClampNeg).toInt32 else nI 2147483647) else mr (4 * k.toNatClampNeg - 4 + w.toNatClampNeg)) else nI 0
def pm_lt (ml : Nat) (k w : Int32) : Nat := if pm_in k (nI 1) (nI ml) ∧ pm_in w (nI 0) (nI 4) then 0 else 1
def pm_ao (mp ml cn : Nat) (md mo : Int64) (mb w : Int32) : Int64 := if w = 0 then (nI mp).toInt64 else if w = nI 1 then (nI ml).toInt64 else if w = nI 2 then md else if w = nI 3 then mo else if w = nI 4 then mb.toInt64 else if w = nI 5 then (nI cn).toInt64 else 0
theorem kz_2_0 {c0 c1 : Nat × va_E} {x : Nat × va_E} : ([c0, c1] : va_W).set 0 x = [x, c1] := rfl
theorem kt_2_ {c0 c1 : Nat × va_E} : ([] : List Nat).filterMap (fun i => ([c0, c1] : va_W)[i]?) = ([] : va_W) := rfl
theorem ks_2_ {c0 c1 : Nat × va_E} : ([] : List Nat).map (fun i => ([c0, c1] : va_W)[i]?) = ([] : va_W).map some := rfl
theorem ks_2_0_1 {c0 c1 : Nat × va_E} : ([0, 1] : List Nat).map (fun i => ([c0, c1] : va_W)[i]?) = ([c0, c1] : va_W).map some := rfl
theorem kz_2_1 {c0 c1 : Nat × va_E} {x : Nat × va_E} : ([c0, c1] : va_W).set 1 x = [c0, x] := rfl
theorem kz_6_0 {c0 c1 c2 c3 c4 c5 : Nat × va_E} {x : Nat × va_E} : ([c0, c1, c2, c3, c4, c5] : va_W).set 0 x = [x, c1, c2, c3, c4, c5] := rfl
theorem kt_6_ {c0 c1 c2 c3 c4 c5 : Nat × va_E} : ([] : List Nat).filterMap (fun i => ([c0, c1, c2, c3, c4, c5] : va_W)[i]?) = ([] : va_W) := rfl
theorem ks_6_ {c0 c1 c2 c3 c4 c5 : Nat × va_E} : ([] : List Nat).map (fun i => ([c0, c1, c2, c3, c4, c5] : va_W)[i]?) = ([] : va_W).map some := rfl
theorem ks_6_0_1_2_3_4_5 {c0 c1 c2 c3 c4 c5 : Nat × va_E} : ([0, 1, 2, 3, 4, 5] : List Nat).map (fun i => ([c0, c1, c2, c3, c4, c5] : va_W)[i]?) = ([c0, c1, c2, c3, c4, c5] : va_W).map some := rfl
theorem kt_6_0_1_2_3_4_5 {c0 c1 c2 c3 c4 c5 : Nat × va_E} : ([0, 1, 2, 3, 4, 5] : List Nat).filterMap (fun i => ([c0, c1, c2, c3, c4, c5] : va_W)[i]?) = ([c0, c1, c2, c3, c4, c5] : va_W) := rfl
theorem kz_1_0 {c0 : Nat × va_E} {x : Nat × va_E} : ([c0] : va_W).set 0 x = [x] := rfl
theorem kt_3_ {c0 c1 c2 : Nat × va_E} : ([] : List Nat).filterMap (fun i => ([c0, c1, c2] : va_W)[i]?) = ([] : va_W) := rfl
theorem ks_3_ {c0 c1 c2 : Nat × va_E} : ([] : List Nat).map (fun i => ([c0, c1, c2] : va_W)[i]?) = ([] : va_W).map some := rfl
theorem ks_3_0_1_2 {c0 c1 c2 : Nat × va_E} : ([0, 1, 2] : List Nat).map (fun i => ([c0, c1, c2] : va_W)[i]?) = ([c0, c1, c2] : va_W).map some := rfl
theorem kw_23 : Cond.selects rr_M yy_M_add yy_M_add ∈ kx_T := kx_in (i := 23) (by decide +kernel) (by decide +kernel)
theorem kw_828 : Cond.fieldLink rr_M (203) "LineDeskModel" "madePass" "I" ∈ kx_T := kx_in (i := 828) (by decide +kernel) (by decide +kernel)
theorem kw_829 : Cond.fieldLink rr_M (206) "LineDeskModel" "madeLines" "I" ∈ kx_T := kx_in (i := 829) (by decide +kernel) (by decide +kernel)
theorem kw_830 : Cond.fieldLink rr_M (209) "LineDeskModel" "madeDemerits" "J" ∈ kx_T := kx_in (i := 830) (by decide +kernel) (by decide +kernel)
theorem kw_831 : Cond.fieldLink rr_M (212) "LineDeskModel" "madeOut" "J" ∈ kx_T := kx_in (i := 831) (by decide +kernel) (by decide +kernel)
theorem kw_832 : Cond.fieldLink rr_M (215) "LineDeskModel" "madeBad" "I" ∈ kx_T := kx_in (i := 832) (by decide +kernel) (by decide +kernel)
theorem kw_833 : Cond.fieldLink rr_M (65) "LineDeskModel" "madeRow" "[I" ∈ kx_T := kx_in (i := 833) (by decide +kernel) (by decide +kernel)
theorem kw_834 : Cond.fieldLink rr_M (68) "LineDeskModel" "madeOuts" "[J" ∈ kx_T := kx_in (i := 834) (by decide +kernel) (by decide +kernel)
theorem kw_918 : Cond.constant rr_M (80) (1000000000) ∈ kx_T := kx_in (i := 918) (by decide +kernel) (by decide +kernel)
theorem kw_926 : Cond.methodLink rr_M (81) yy_M_isWidth ∈ kx_T := kx_in (i := 926) (by decide +kernel) (by decide +kernel)
theorem kw_927 : Cond.static yy_M_isWidth ∈ kx_T := kx_in (i := 927) (by decide +kernel) (by decide +kernel)
set_option maxRecDepth 100000 in
theorem kw_928 : Cond.code yy_M_isWidth bb_M_isWidth 1 (some .boolean) ∈ kx_T := kx_in (i := 928) rfl (by decide +kernel)
theorem kw_939 : Cond.methodLink rr_M (88) yy_M_add ∈ kx_T := kx_in (i := 939) (by decide +kernel) (by decide +kernel)
theorem kw_941 : Cond.instanceMethod yy_M_add ∈ kx_T := kx_in (i := 941) (by decide +kernel) (by decide +kernel)
set_option maxRecDepth 100000 in
theorem kw_942 : Cond.code yy_M_add bb_M_add 7 (some .int) ∈ kx_T := kx_in (i := 942) rfl (by decide +kernel)
theorem kw_1057 : Cond.constantLong rr_M (224) (2147483647) ∈ kx_T := kx_in (i := 1057) (by decide +kernel) (by decide +kernel)
theorem kw_1058 : Cond.constant rr_M (226) (2147483647) ∈ kx_T := kx_in (i := 1058) (by decide +kernel) (by decide +kernel)
theorem dd_M_rule_0 : decode bb_M_rule 0 = .ok (.aload_n 0, 1) := by decide +kernel
theorem dd_M_rule_1 : decode bb_M_rule 1 = .ok (.iconst 0, 1) := by decide +kernel
theorem dd_M_rule_2 : decode bb_M_rule 2 = .ok (.putfield 71, 3) := by decide +kernel
theorem dd_M_rule_5 : decode bb_M_rule 5 = .ok (.iload_n 1, 1) := by decide +kernel
theorem dd_M_rule_6 : decode bb_M_rule 6 = .ok (.iconst 4, 1) := by decide +kernel
theorem dd_M_rule_7 : decode bb_M_rule 7 = .ok (.if_icmp .le (14), 3) := by decide +kernel
theorem dd_M_rule_10 : decode bb_M_rule 10 = .ok (.iload_n 1, 1) := by decide +kernel
theorem dd_M_rule_11 : decode bb_M_rule 11 = .ok (.bipush (8), 2) := by decide +kernel
theorem dd_M_rule_13 : decode bb_M_rule 13 = .ok (.if_icmp .ge (8), 3) := by decide +kernel
theorem dd_M_rule_16 : decode bb_M_rule 16 = .ok (.ldc 80, 2) := by decide +kernel
theorem dd_M_rule_18 : decode bb_M_rule 18 = .ok (.goto (6), 3) := by decide +kernel
theorem dd_M_rule_21 : decode bb_M_rule 21 = .ok (.sipush (10000), 3) := by decide +kernel
theorem dd_M_rule_24 : decode bb_M_rule 24 = .ok (.istore_n 3, 1) := by decide +kernel
theorem dd_M_rule_25 : decode bb_M_rule 25 = .ok (.iload_n 1, 1) := by decide +kernel
theorem dd_M_rule_26 : decode bb_M_rule 26 = .ok (.iconst 0, 1) := by decide +kernel
theorem dd_M_rule_27 : decode bb_M_rule 27 = .ok (.bipush (8), 2) := by decide +kernel
theorem dd_M_rule_29 : decode bb_M_rule 29 = .ok (.invokestatic 76, 3) := by decide +kernel
theorem dd_M_rule_32 : decode bb_M_rule 32 = .ok (.ifCond .eq (13), 3) := by decide +kernel
theorem dd_M_rule_35 : decode bb_M_rule 35 = .ok (.iload_n 2, 1) := by decide +kernel
theorem dd_M_rule_36 : decode bb_M_rule 36 = .ok (.iload_n 3, 1) := by decide +kernel
theorem dd_M_rule_37 : decode bb_M_rule 37 = .ok (.ineg, 1) := by decide +kernel
theorem dd_M_rule_38 : decode bb_M_rule 38 = .ok (.iload_n 3, 1) := by decide +kernel
theorem dd_M_rule_39 : decode bb_M_rule 39 = .ok (.invokestatic 76, 3) := by decide +kernel
theorem dd_M_rule_42 : decode bb_M_rule 42 = .ok (.ifCond .ne (5), 3) := by decide +kernel
theorem dd_M_rule_45 : decode bb_M_rule 45 = .ok (.iconst 0, 1) := by decide +kernel
theorem dd_M_rule_46 : decode bb_M_rule 46 = .ok (.ireturn, 1) := by decide +kernel
theorem dd_M_rule_47 : decode bb_M_rule 47 = .ok (.aload_n 0, 1) := by decide +kernel
theorem dd_M_rule_48 : decode bb_M_rule 48 = .ok (.getfield 25, 3) := by decide +kernel
theorem dd_M_rule_51 : decode bb_M_rule 51 = .ok (.iload_n 1, 1) := by decide +kernel
theorem dd_M_rule_52 : decode bb_M_rule 52 = .ok (.iload_n 2, 1) := by decide +kernel
theorem dd_M_rule_53 : decode bb_M_rule 53 = .ok (.iastore, 1) := by decide +kernel
theorem dd_M_rule_54 : decode bb_M_rule 54 = .ok (.iconst 1, 1) := by decide +kernel
theorem dd_M_rule_55 : decode bb_M_rule 55 = .ok (.ireturn, 1) := by decide +kernel

set_option maxHeartbeats 4000000 in
set_option maxRecDepth 100000 in
theorem ct_M_rule (l : Launch) (D : va_G) (cI cJ cZ : ClassId) (sz : Nat) (o : Nat) (th : Nat) (cn : Nat) (a0 : Nat) (a1 : Nat) (a2 : Nat) (a3 : Nat) (a4 : Nat) (a5 : Nat) (mn : Nat) (a6 : Nat) (a7 : Nat) (ps : Nat) (bk : Nat) (a8 : Nat) (a9 : Nat) (a10 : Nat) (a11 : Nat) (a12 : Nat) (a13 : Nat) (a14 : Nat) (a15 : Nat) (kf : Nat) (lb : Int32) (lc : Nat) (lo : Int64) (el : Nat) (ec : Nat) (eo : Int64) (eb : Int32) (ed : Int64) (mp : Nat) (ml : Nat) (md : Int64) (mo : Int64) (mb : Int32) (a16 : Nat) (a17 : Nat) (ru : Nat → Int32) (w : Int32) (v : Int32) : kx_Mi l yy_M_rule ww_M_rule ({ frames := 1, cells := 0, slots := 0, locals := 22 }) D vwCl (kx_ty cI cJ cZ) [.ref o, .int w, .int v] [(o, .inr (0, [.int (nI th), .int (nI cn), .ref a0, .ref a1, .ref a2, .ref a3, .ref a4, .ref a5, .int (nI mn), .ref a6, .ref a7, .int (nI ps), .int (nI bk), .ref a8, .ref a9, .ref a10, .ref a11, .ref a12, .ref a13, .ref a14, .ref a15, .int (nI kf), .int lb, .int (nI lc), .long lo, .int (nI el), .int (nI ec), .long eo, .int eb, .long ed, .int (nI mp), .int (nI ml), .long md, .long mo, .int mb, .ref a16, .ref a17])), (a5, .inl (cI, 9, .inl ru))] sz (fun (r : Int32) (u : (Nat → Int32)) => (r = kb_p (pm_rl w v)) ∧ (u = if pm_rl w v then upd ru w.toNatClampNeg v else ru)) (fun (u : (Nat → Int32)) => [(o, .inr (0, [.int (nI 0), .int (nI cn), .ref a0, .ref a1, .ref a2, .ref a3, .ref a4, .ref a5, .int (nI mn), .ref a6, .ref a7, .int (nI ps), .int (nI bk), .ref a8, .ref a9, .ref a10, .ref a11, .ref a12, .ref a13, .ref a14, .ref a15, .int (nI kf), .int lb, .int (nI lc), .long lo, .int (nI el), .int (nI ec), .long eo, .int eb, .long ed, .int (nI mp), .int (nI ml), .long md, .long mo, .int mb, .ref a16, .ref a17])), (a5, .inl (cI, 9, .inl u))]) 0 0 := by
  refine kx_starti (by decide) rfl (Nat.le_of_ble_eq_true rfl) ?_
  intro p e s m below meth c A ls hx hb hr hml hts hown hlocks hin hP hK hN hD hA hS hl
  have hl : lv_has ls 4 [(0, .ref o), (1, .int w), (2, .int v)] := hl
  have hown : s.vm.findClass rr_M = some m.cls := hown
  have lk0 := hts _ (kx_m kw_798)
  have hin0 : ∀ w ∈ u_ws rr_M tt_M 37, w ∈ ww_M_rule := fun w h => kx_m (kf_M w h)
  have lk2 := hts _ (kx_m kw_918)
  have lk3 := hts _ (kx_m kw_805)
  obtain ⟨H, hH⟩ : ∃ H, H = s.heap := ⟨_, rfl⟩
  obtain ⟨locs, hlocs⟩ : ∃ z : List Loc, z = [] := ⟨_, rfl⟩
  have hP : va_P D vwCl [(o, .inr (0, [.int (nI th), .int (nI cn), .ref a0, .ref a1, .ref a2, .ref a3, .ref a4, .ref a5, .int (nI mn), .ref a6, .ref a7, .int (nI ps), .int (nI bk), .ref a8, .ref a9, .ref a10, .ref a11, .ref a12, .ref a13, .ref a14, .ref a15, .int (nI kf), .int lb, .int (nI lc), .long lo, .int (nI el), .int (nI ec), .long eo, .int eb, .long ed, .int (nI mp), .int (nI ml), .long md, .long mo, .int mb, .ref a16, .ref a17])), (a5, .inl (cI, 9, .inl ru))] H := by rw [hH]; exact hP
  have hS : va_S A s.heap H locs := by rw [hH, hlocs]; exact hS
  refine kx_gen hH hlocs ?_
  clear hH hlocs
  refine kx_nameQ (fun Q hQ => ?_)
  refine lv_aload_n hx hb dd_M_rule_0 rfl (lv_at hl 0 rfl) ?_
  refine lv_iconst (v := nI 0) hx hb dd_M_rule_1 (by decide) ?_
  refine va_put (D := D) (ci := 0) (v := .int (nI 0)) (ty := .int) (C := rr_M) (T := tt_M) (N := 37) hx hb hts hin0 ft_M ft_M_ok nn_M hown hK hP hD hS 0 kg_2_0 rfl 0 (by decide) lk0 (fun _ h9 => h9) rfl (by decide +kernel) rfl rfl (Nat.le_of_ble_eq_true rfl) dd_M_rule_2 (fun H locs hP hD hS => ?_)
  have hP : va_P D vwCl [(o, .inr (0, [.int (nI 0), .int (nI cn), .ref a0, .ref a1, .ref a2, .ref a3, .ref a4, .ref a5, .int (nI mn), .ref a6, .ref a7, .int (nI ps), .int (nI bk), .ref a8, .ref a9, .ref a10, .ref a11, .ref a12, .ref a13, .ref a14, .ref a15, .int (nI kf), .int lb, .int (nI lc), .long lo, .int (nI el), .int (nI ec), .long eo, .int eb, .long ed, .int (nI mp), .int (nI ml), .long md, .long mo, .int mb, .ref a16, .ref a17])), (a5, .inl (cI, 9, .inl ru))] H := kx_cP kz_2_0 hP
  have hD : va_D A [(o, .inr (0, [.int (nI 0), .int (nI cn), .ref a0, .ref a1, .ref a2, .ref a3, .ref a4, .ref a5, .int (nI mn), .ref a6, .ref a7, .int (nI ps), .int (nI bk), .ref a8, .ref a9, .ref a10, .ref a11, .ref a12, .ref a13, .ref a14, .ref a15, .int (nI kf), .int lb, .int (nI lc), .long lo, .int (nI el), .int (nI ec), .long eo, .int eb, .long ed, .int (nI mp), .int (nI ml), .long md, .long mo, .int mb, .ref a16, .ref a17])), (a5, .inl (cI, 9, .inl ru))] := kx_cD kz_2_0 hD
  refine lv_iload_n hx hb dd_M_rule_5 rfl (lv_at hl 1 rfl) ?_
  refine lv_iconst (v := nI 4) hx hb dd_M_rule_6 (by decide) ?_
  refine kx_joini (D := D) (cl := vwCl) (A := A) (ws := [(o, .inr (0, [.int (nI 0), .int (nI cn), .ref a0, .ref a1, .ref a2, .ref a3, .ref a4, .ref a5, .int (nI mn), .ref a6, .ref a7, .int (nI ps), .int (nI bk), .ref a8, .ref a9, .ref a10, .ref a11, .ref a12, .ref a13, .ref a14, .ref a15, .int (nI kf), .int lb, .int (nI lc), .long lo, .int (nI el), .int (nI ec), .long eo, .int eb, .long ed, .int (nI mp), .int (nI ml), .long md, .long mo, .int mb, .ref a16, .ref a17])), (a5, .inl (cI, 9, .inl ru))]) (Y := 24) (ls1 := ls) (st1 := []) (if w ≤ (nI 4) then (nI 10000) else (if (nI 8) ≤ w then (nI 10000) else (nI 1000000000))) (fun v24 H locs e_v24 hP hD hS => ?_) (fun K24 => ?_)
  · skip
    obtain rfl : v24 = pm_mo w := by rw [e_v24]; rfl
    refine lv_istore_n (lv' := [(3, .int (pm_mo w)), (0, .ref o), (1, .int w), (2, .int v)]) hx hb dd_M_rule_24 rfl hl (by decide) rfl (fun ls hl => ?_)
    refine lv_iload_n hx hb dd_M_rule_25 rfl (lv_at hl 2 rfl) ?_
    refine lv_iconst (v := nI 0) hx hb dd_M_rule_26 (by decide) ?_
    refine lv_bipush (v := nI 8) hx hb dd_M_rule_27 (by decide) ?_
    refine kx_calli (wr := [(o, .inr (0, [.int (nI 0), .int (nI cn), .ref a0, .ref a1, .ref a2, .ref a3, .ref a4, .ref a5, .int (nI mn), .ref a6, .ref a7, .int (nI ps), .int (nI bk), .ref a8, .ref a9, .ref a10, .ref a11, .ref a12, .ref a13, .ref a14, .ref a15, .int (nI kf), .int lb, .int (nI lc), .long lo, .int (nI el), .int (nI ec), .long eo, .int eb, .long ed, .int (nI mp), .int (nI ml), .long md, .long mo, .int mb, .ref a16, .ref a17])), (a5, .inl (cI, 9, .inl ru))]) (va_runS (As := [.int w, .int (nI 0), .int (nI 8)]) (rest := []) ⟨hx, hb, hml, hown, hts⟩ (ct_M_in l D cI cJ cZ H.size w (nI 0) (nI 8)) ⟨(callB_of 3 hts (kx_good kw_921) rfl rfl rfl (hts _ (kx_m kw_53)) (hts _ (kx_m kw_919)) (by decide +kernel) ⟨Nat.le_of_ble_eq_true rfl, Nat.le_of_ble_eq_true rfl⟩), (hts _ (kx_m kw_920))⟩ (kx_preS hK hN (hP.sub [] kt_2_) (hD.sub [] (by decide) ks_2_)) rfl rfl hl.1 rfl (lv_room (Nat.le_of_ble_eq_true rfl)) dd_M_rule_29 ⟨Nat.le_of_ble_eq_true rfl, Nat.le_of_ble_eq_true rfl⟩) hP hD hS hA [] [0, 1] ks_2_ ks_2_0_1 (by decide) (by decide) (fun r29 u29 H locs hw29 hP hD hS => ?_)
    have hP : va_P D vwCl [(o, .inr (0, [.int (nI 0), .int (nI cn), .ref a0, .ref a1, .ref a2, .ref a3, .ref a4, .ref a5, .int (nI mn), .ref a6, .ref a7, .int (nI ps), .int (nI bk), .ref a8, .ref a9, .ref a10, .ref a11, .ref a12, .ref a13, .ref a14, .ref a15, .int (nI kf), .int lb, .int (nI lc), .long lo, .int (nI el), .int (nI ec), .long eo, .int eb, .long ed, .int (nI mp), .int (nI ml), .long md, .long mo, .int mb, .ref a16, .ref a17])), (a5, .inl (cI, 9, .inl ru))] H := hP
    have hD : va_D A [(o, .inr (0, [.int (nI 0), .int (nI cn), .ref a0, .ref a1, .ref a2, .ref a3, .ref a4, .ref a5, .int (nI mn), .ref a6, .ref a7, .int (nI ps), .int (nI bk), .ref a8, .ref a9, .ref a10, .ref a11, .ref a12, .ref a13, .ref a14, .ref a15, .int (nI kf), .int lb, .int (nI lc), .long lo, .int (nI el), .int (nI ec), .long eo, .int eb, .long ed, .int (nI mp), .int (nI ml), .long md, .long mo, .int mb, .ref a16, .ref a17])), (a5, .inl (cI, 9, .inl ru))] := hD
    have hw29 : r29 = kb_p (¬ w < (nI 0) ∧ ¬ (nI 8) < w) := hw29
    subst hw29
    refine lv_if_eq (tgt := 45) hx hb dd_M_rule_32 (by decide) (fun c32 => ?_) (fun c32 => ?_)
    · skip
      have c32 : ¬ (¬ w < (nI 0) ∧ ¬ (nI 8) < w) := kb_0.mp c32
      refine lv_iconst (v := nI 0) hx hb dd_M_rule_45 (by decide) ?_
      rw [hQ]
      exact kx_zret hx hb hr hlocks hK hN hS dd_M_rule_46 (by decide) ru hP hD (by have hno : ¬ pm_rl w v := (by first | exact fun q => c32 q.1 | exact fun q => c42 q.2); exact ⟨kb_f hno, by rw [if_neg hno]⟩)
    · skip
      have c32 : ¬ w < (nI 0) ∧ ¬ (nI 8) < w := kb_1.mp c32
      refine lv_iload_n hx hb dd_M_rule_35 rfl (lv_at hl 3 rfl) ?_
      refine lv_iload_n hx hb dd_M_rule_36 rfl (lv_at hl 0 rfl) ?_
      refine lv_ineg hx hb dd_M_rule_37 ?_
      refine lv_iload_n hx hb dd_M_rule_38 rfl (lv_at hl 0 rfl) ?_
      refine kx_calli (wr := [(o, .inr (0, [.int (nI 0), .int (nI cn), .ref a0, .ref a1, .ref a2, .ref a3, .ref a4, .ref a5, .int (nI mn), .ref a6, .ref a7, .int (nI ps), .int (nI bk), .ref a8, .ref a9, .ref a10, .ref a11, .ref a12, .ref a13, .ref a14, .ref a15, .int (nI kf), .int lb, .int (nI lc), .long lo, .int (nI el), .int (nI ec), .long eo, .int eb, .long ed, .int (nI mp), .int (nI ml), .long md, .long mo, .int mb, .ref a16, .ref a17])), (a5, .inl (cI, 9, .inl ru))]) (va_runS (As := [.int v, .int (-(pm_mo w)), .int (pm_mo w)]) (rest := []) ⟨hx, hb, hml, hown, hts⟩ (ct_M_in l D cI cJ cZ H.size v (-(pm_mo w)) (pm_mo w)) ⟨(callB_of 3 hts (kx_good kw_921) rfl rfl rfl (hts _ (kx_m kw_53)) (hts _ (kx_m kw_919)) (by decide +kernel) ⟨Nat.le_of_ble_eq_true rfl, Nat.le_of_ble_eq_true rfl⟩), (hts _ (kx_m kw_920))⟩ (kx_preS hK hN (hP.sub [] kt_2_) (hD.sub [] (by decide) ks_2_)) rfl rfl hl.1 rfl (lv_room (Nat.le_of_ble_eq_true rfl)) dd_M_rule_39 ⟨Nat.le_of_ble_eq_true rfl, Nat.le_of_ble_eq_true rfl⟩) hP hD hS hA [] [0, 1] ks_2_ ks_2_0_1 (by decide) (by decide) (fun r39 u39 H locs hw39 hP hD hS => ?_)
      have hP : va_P D vwCl [(o, .inr (0, [.int (nI 0), .int (nI cn), .ref a0, .ref a1, .ref a2, .ref a3, .ref a4, .ref a5, .int (nI mn), .ref a6, .ref a7, .int (nI ps), .int (nI bk), .ref a8, .ref a9, .ref a10, .ref a11, .ref a12, .ref a13, .ref a14, .ref a15, .int (nI kf), .int lb, .int (nI lc), .long lo, .int (nI el), .int (nI ec), .long eo, .int eb, .long ed, .int (nI mp), .int (nI ml), .long md, .long mo, .int mb, .ref a16, .ref a17])), (a5, .inl (cI, 9, .inl ru))] H := hP
      have hD : va_D A [(o, .inr (0, [.int (nI 0), .int (nI cn), .ref a0, .ref a1, .ref a2, .ref a3, .ref a4, .ref a5, .int (nI mn), .ref a6, .ref a7, .int (nI ps), .int (nI bk), .ref a8, .ref a9, .ref a10, .ref a11, .ref a12, .ref a13, .ref a14, .ref a15, .int (nI kf), .int lb, .int (nI lc), .long lo, .int (nI el), .int (nI ec), .long eo, .int eb, .long ed, .int (nI mp), .int (nI ml), .long md, .long mo, .int mb, .ref a16, .ref a17])), (a5, .inl (cI, 9, .inl ru))] := hD
      have hw39 : r39 = kb_p (¬ v < (-(pm_mo w)) ∧ ¬ (pm_mo w) < v) := hw39
      subst hw39
      refine lv_if_ne (tgt := 47) hx hb dd_M_rule_42 (by decide) (fun c42 => ?_) (fun c42 => ?_)
      · skip
        have c42 : ¬ v < (-(pm_mo w)) ∧ ¬ (pm_mo w) < v := kb_1.mp c42
        have hwb := (kn_box (n := 8) (by decide) c32.1 c32.2).2
        refine lv_aload_n hx hb dd_M_rule_47 rfl (lv_at hl 1 rfl) ?_
        refine va_get (D := D) (ci := 0) (v := .ref a5) (C := rr_M) (T := tt_M) (N := 37) hx hb hts hin0 hown hK hP 0 kg_2_0 rfl 7 (by decide) lk3 (fun _ h9 => h9) rfl dd_M_rule_48 ?_
        refine lv_iload_n hx hb dd_M_rule_51 rfl (lv_at hl 2 rfl) ?_
        refine kx_toN (n := w.toNatClampNeg) ((kn_box (by decide) c32.1 c32.2).1) ?_
        refine lv_iload_n hx hb dd_M_rule_52 rfl (lv_at hl 3 rfl) ?_
        refine kx_iast (q0 := 1) (t0 := 0) hx hb dd_M_rule_53 hK hP hD hS kg_2_1 rfl (by omega) (by omega) (fun H locs hP hD hS => ?_)
        have hP : va_P D vwCl [(o, .inr (0, [.int (nI 0), .int (nI cn), .ref a0, .ref a1, .ref a2, .ref a3, .ref a4, .ref a5, .int (nI mn), .ref a6, .ref a7, .int (nI ps), .int (nI bk), .ref a8, .ref a9, .ref a10, .ref a11, .ref a12, .ref a13, .ref a14, .ref a15, .int (nI kf), .int lb, .int (nI lc), .long lo, .int (nI el), .int (nI ec), .long eo, .int eb, .long ed, .int (nI mp), .int (nI ml), .long md, .long mo, .int mb, .ref a16, .ref a17])), (a5, .inl (cI, 9, .inl (upd ru w.toNatClampNeg v)))] H := kx_cP kz_2_1 hP
        have hD : va_D A [(o, .inr (0, [.int (nI 0), .int (nI cn), .ref a0, .ref a1, .ref a2, .ref a3, .ref a4, .ref a5, .int (nI mn), .ref a6, .ref a7, .int (nI ps), .int (nI bk), .ref a8, .ref a9, .ref a10, .ref a11, .ref a12, .ref a13, .ref a14, .ref a15, .int (nI kf), .int lb, .int (nI lc), .long lo, .int (nI el), .int (nI ec), .long eo, .int eb, .long ed, .int (nI mp), .int (nI ml), .long md, .long mo, .int mb, .ref a16, .ref a17])), (a5, .inl (cI, 9, .inl (upd ru w.toNatClampNeg v)))] := kx_cD kz_2_1 hD
        refine lv_iconst (v := nI 1) hx hb dd_M_rule_54 (by decide) ?_
        rw [hQ]
        exact kx_zret hx hb hr hlocks hK hN hS dd_M_rule_55 (by decide) (upd ru w.toNatClampNeg v) hP hD (by refine ⟨kb_t ⟨c32, c42⟩, by rw [if_pos ⟨c32, c42⟩]⟩)
      · skip
        have c42 : ¬ (¬ v < (-(pm_mo w)) ∧ ¬ (pm_mo w) < v) := kb_0.mp c42
        refine lv_iconst (v := nI 0) hx hb dd_M_rule_45 (by decide) ?_
        rw [hQ]
        exact kx_zret hx hb hr hlocks hK hN hS dd_M_rule_46 (by decide) ru hP hD (by have hno : ¬ pm_rl w v := (by first | exact fun q => c32 q.1 | exact fun q => c42 q.2); exact ⟨kb_f hno, by rw [if_neg hno]⟩)
  · skip
    refine lv_icmp_le (tgt := 21) hx hb dd_M_rule_7 (by decide) (fun c7 => ?_) (fun c7 => ?_)
    · skip
      refine lv_sipush (v := nI 10000) hx hb dd_M_rule_21 (by decide) ?_
      exact K24 _ H locs (by rw [if_pos c7]) hP hD hS
    · skip
      refine lv_iload_n hx hb dd_M_rule_10 rfl (lv_at hl 1 rfl) ?_
      refine lv_bipush (v := nI 8) hx hb dd_M_rule_11 (by decide) ?_
      refine lv_icmp_ge (tgt := 21) hx hb dd_M_rule_13 (by decide) (fun c13 => ?_) (fun c13 => ?_)
      · skip
        refine lv_sipush (v := nI 10000) hx hb dd_M_rule_21 (by decide) ?_
        exact K24 _ H locs (by rw [if_neg c7, if_pos c13]) hP hD hS
      · skip
        refine lv_ldc (v := nI 1000000000) hx hb hown lk2 dd_M_rule_16 ?_
        refine lv_goto (tgt := 24) hx hb dd_M_rule_18 (by decide) ?_
        exact K24 _ H locs (by rw [if_neg c7, if_neg c13]) hP hD hS

theorem dd_M_measure_0 : decode bb_M_measure 0 = .ok (.aload_n 0, 1) := by decide +kernel
theorem dd_M_measure_1 : decode bb_M_measure 1 = .ok (.iconst 0, 1) := by decide +kernel
theorem dd_M_measure_2 : decode bb_M_measure 2 = .ok (.putfield 71, 3) := by decide +kernel
theorem dd_M_measure_5 : decode bb_M_measure 5 = .ok (.iload_n 1, 1) := by decide +kernel
theorem dd_M_measure_6 : decode bb_M_measure 6 = .ok (.iconst 1, 1) := by decide +kernel
theorem dd_M_measure_7 : decode bb_M_measure 7 = .ok (.aload_n 0, 1) := by decide +kernel
theorem dd_M_measure_8 : decode bb_M_measure 8 = .ok (.getfield 28, 3) := by decide +kernel
theorem dd_M_measure_11 : decode bb_M_measure 11 = .ok (.iconst 1, 1) := by decide +kernel
theorem dd_M_measure_12 : decode bb_M_measure 12 = .ok (.iadd, 1) := by decide +kernel
theorem dd_M_measure_13 : decode bb_M_measure 13 = .ok (.invokestatic 76, 3) := by decide +kernel
theorem dd_M_measure_16 : decode bb_M_measure 16 = .ok (.ifCond .eq (17), 3) := by decide +kernel
theorem dd_M_measure_19 : decode bb_M_measure 19 = .ok (.iload_n 1, 1) := by decide +kernel
theorem dd_M_measure_20 : decode bb_M_measure 20 = .ok (.sipush (256), 3) := by decide +kernel
theorem dd_M_measure_23 : decode bb_M_measure 23 = .ok (.if_icmp .gt (10), 3) := by decide +kernel
theorem dd_M_measure_26 : decode bb_M_measure 26 = .ok (.iload_n 2, 1) := by decide +kernel
theorem dd_M_measure_27 : decode bb_M_measure 27 = .ok (.invokestatic 81, 3) := by decide +kernel
theorem dd_M_measure_30 : decode bb_M_measure 30 = .ok (.ifCond .ne (5), 3) := by decide +kernel
theorem dd_M_measure_33 : decode bb_M_measure 33 = .ok (.iconst 0, 1) := by decide +kernel
theorem dd_M_measure_34 : decode bb_M_measure 34 = .ok (.ireturn, 1) := by decide +kernel
theorem dd_M_measure_35 : decode bb_M_measure 35 = .ok (.aload_n 0, 1) := by decide +kernel
theorem dd_M_measure_36 : decode bb_M_measure 36 = .ok (.iload_n 1, 1) := by decide +kernel
theorem dd_M_measure_37 : decode bb_M_measure 37 = .ok (.putfield 28, 3) := by decide +kernel
theorem dd_M_measure_40 : decode bb_M_measure 40 = .ok (.aload_n 0, 1) := by decide +kernel
theorem dd_M_measure_41 : decode bb_M_measure 41 = .ok (.getfield 32, 3) := by decide +kernel
theorem dd_M_measure_44 : decode bb_M_measure 44 = .ok (.iload_n 1, 1) := by decide +kernel
theorem dd_M_measure_45 : decode bb_M_measure 45 = .ok (.iload_n 2, 1) := by decide +kernel
theorem dd_M_measure_46 : decode bb_M_measure 46 = .ok (.iastore, 1) := by decide +kernel
theorem dd_M_measure_47 : decode bb_M_measure 47 = .ok (.iconst 1, 1) := by decide +kernel
theorem dd_M_measure_48 : decode bb_M_measure 48 = .ok (.ireturn, 1) := by decide +kernel

set_option maxHeartbeats 4000000 in
set_option maxRecDepth 100000 in
theorem ct_M_measure (l : Launch) (D : va_G) (cI cJ cZ : ClassId) (sz : Nat) (o : Nat) (th : Nat) (cn : Nat) (a0 : Nat) (a1 : Nat) (a2 : Nat) (a3 : Nat) (a4 : Nat) (a5 : Nat) (mn : Nat) (a6 : Nat) (a7 : Nat) (ps : Nat) (bk : Nat) (a8 : Nat) (a9 : Nat) (a10 : Nat) (a11 : Nat) (a12 : Nat) (a13 : Nat) (a14 : Nat) (a15 : Nat) (kf : Nat) (lb : Int32) (lc : Nat) (lo : Int64) (el : Nat) (ec : Nat) (eo : Int64) (eb : Int32) (ed : Int64) (mp : Nat) (ml : Nat) (md : Int64) (mo : Int64) (mb : Int32) (a16 : Nat) (a17 : Nat) (me : Nat → Int32) (k : Int32) (w : Int32) (hmn : mn ≤ 256) : kx_Mi l yy_M_measure ww_M_measure ({ frames := 2, cells := 0, slots := 0, locals := 42 }) D vwCl (kx_ty cI cJ cZ) [.ref o, .int k, .int w] [(o, .inr (0, [.int (nI th), .int (nI cn), .ref a0, .ref a1, .ref a2, .ref a3, .ref a4, .ref a5, .int (nI mn), .ref a6, .ref a7, .int (nI ps), .int (nI bk), .ref a8, .ref a9, .ref a10, .ref a11, .ref a12, .ref a13, .ref a14, .ref a15, .int (nI kf), .int lb, .int (nI lc), .long lo, .int (nI el), .int (nI ec), .long eo, .int eb, .long ed, .int (nI mp), .int (nI ml), .long md, .long mo, .int mb, .ref a16, .ref a17])), (a6, .inl (cI, 258, .inl me))] sz (fun (r : Int32) (u : Nat × (Nat → Int32)) => (r = kb_p (pm_ms mn k w)) ∧ (if pm_ms mn k w then u.1 = k.toNatClampNeg ∧ u.2 = upd me k.toNatClampNeg w else u.1 = mn ∧ u.2 = me)) (fun (u : Nat × (Nat → Int32)) => [(o, .inr (0, [.int (nI 0), .int (nI cn), .ref a0, .ref a1, .ref a2, .ref a3, .ref a4, .ref a5, .int (nI u.1), .ref a6, .ref a7, .int (nI ps), .int (nI bk), .ref a8, .ref a9, .ref a10, .ref a11, .ref a12, .ref a13, .ref a14, .ref a15, .int (nI kf), .int lb, .int (nI lc), .long lo, .int (nI el), .int (nI ec), .long eo, .int eb, .long ed, .int (nI mp), .int (nI ml), .long md, .long mo, .int mb, .ref a16, .ref a17])), (a6, .inl (cI, 258, .inl u.2))]) 0 0 := by
  refine kx_starti (by decide) rfl (Nat.le_of_ble_eq_true rfl) ?_
  intro p e s m below meth c A ls hx hb hr hml hts hown hlocks hin hP hK hN hD hA hS hl
  have hl : lv_has ls 3 [(0, .ref o), (1, .int k), (2, .int w)] := hl
  have hown : s.vm.findClass rr_M = some m.cls := hown
  have lk0 := hts _ (kx_m kw_798)
  have hin0 : ∀ w ∈ u_ws rr_M tt_M 37, w ∈ ww_M_measure := fun w h => kx_m (kf_M w h)
  have lk2 := hts _ (kx_m kw_806)
  have lk3 := hts _ (kx_m kw_807)
  obtain ⟨H, hH⟩ : ∃ H, H = s.heap := ⟨_, rfl⟩
  obtain ⟨locs, hlocs⟩ : ∃ z : List Loc, z = [] := ⟨_, rfl⟩
  have hP : va_P D vwCl [(o, .inr (0, [.int (nI th), .int (nI cn), .ref a0, .ref a1, .ref a2, .ref a3, .ref a4, .ref a5, .int (nI mn), .ref a6, .ref a7, .int (nI ps), .int (nI bk), .ref a8, .ref a9, .ref a10, .ref a11, .ref a12, .ref a13, .ref a14, .ref a15, .int (nI kf), .int lb, .int (nI lc), .long lo, .int (nI el), .int (nI ec), .long eo, .int eb, .long ed, .int (nI mp), .int (nI ml), .long md, .long mo, .int mb, .ref a16, .ref a17])), (a6, .inl (cI, 258, .inl me))] H := by rw [hH]; exact hP
  have hS : va_S A s.heap H locs := by rw [hH, hlocs]; exact hS
  refine kx_gen hH hlocs ?_
  clear hH hlocs
  refine kx_nameQ (fun Q hQ => ?_)
  refine lv_aload_n hx hb dd_M_measure_0 rfl (lv_at hl 0 rfl) ?_
  refine lv_iconst (v := nI 0) hx hb dd_M_measure_1 (by decide) ?_
  refine va_put (D := D) (ci := 0) (v := .int (nI 0)) (ty := .int) (C := rr_M) (T := tt_M) (N := 37) hx hb hts hin0 ft_M ft_M_ok nn_M hown hK hP hD hS 0 kg_2_0 rfl 0 (by decide) lk0 (fun _ h9 => h9) rfl (by decide +kernel) rfl rfl (Nat.le_of_ble_eq_true rfl) dd_M_measure_2 (fun H locs hP hD hS => ?_)
  have hP : va_P D vwCl [(o, .inr (0, [.int (nI 0), .int (nI cn), .ref a0, .ref a1, .ref a2, .ref a3, .ref a4, .ref a5, .int (nI mn), .ref a6, .ref a7, .int (nI ps), .int (nI bk), .ref a8, .ref a9, .ref a10, .ref a11, .ref a12, .ref a13, .ref a14, .ref a15, .int (nI kf), .int lb, .int (nI lc), .long lo, .int (nI el), .int (nI ec), .long eo, .int eb, .long ed, .int (nI mp), .int (nI ml), .long md, .long mo, .int mb, .ref a16, .ref a17])), (a6, .inl (cI, 258, .inl me))] H := kx_cP kz_2_0 hP
  have hD : va_D A [(o, .inr (0, [.int (nI 0), .int (nI cn), .ref a0, .ref a1, .ref a2, .ref a3, .ref a4, .ref a5, .int (nI mn), .ref a6, .ref a7, .int (nI ps), .int (nI bk), .ref a8, .ref a9, .ref a10, .ref a11, .ref a12, .ref a13, .ref a14, .ref a15, .int (nI kf), .int lb, .int (nI lc), .long lo, .int (nI el), .int (nI ec), .long eo, .int eb, .long ed, .int (nI mp), .int (nI ml), .long md, .long mo, .int mb, .ref a16, .ref a17])), (a6, .inl (cI, 258, .inl me))] := kx_cD kz_2_0 hD
  refine lv_iload_n hx hb dd_M_measure_5 rfl (lv_at hl 1 rfl) ?_
  refine lv_iconst (v := nI 1) hx hb dd_M_measure_6 (by decide) ?_
  refine lv_aload_n hx hb dd_M_measure_7 rfl (lv_at hl 0 rfl) ?_
  refine va_get (D := D) (ci := 0) (v := .int (nI mn)) (C := rr_M) (T := tt_M) (N := 37) hx hb hts hin0 hown hK hP 0 kg_2_0 rfl 8 (by decide) lk2 (fun _ h9 => h9) rfl dd_M_measure_8 ?_
  refine lv_iconst (v := nI 1) hx hb dd_M_measure_11 (by decide) ?_
  refine kx_iadd hx hb dd_M_measure_12 ?_
  refine kx_calli (wr := [(o, .inr (0, [.int (nI 0), .int (nI cn), .ref a0, .ref a1, .ref a2, .ref a3, .ref a4, .ref a5, .int (nI mn), .ref a6, .ref a7, .int (nI ps), .int (nI bk), .ref a8, .ref a9, .ref a10, .ref a11, .ref a12, .ref a13, .ref a14, .ref a15, .int (nI kf), .int lb, .int (nI lc), .long lo, .int (nI el), .int (nI ec), .long eo, .int eb, .long ed, .int (nI mp), .int (nI ml), .long md, .long mo, .int mb, .ref a16, .ref a17])), (a6, .inl (cI, 258, .inl me))]) (va_runS (As := [.int k, .int (nI 1), .int (nI (mn + 1))]) (rest := []) ⟨hx, hb, hml, hown, hts⟩ (ct_M_in l D cI cJ cZ H.size k (nI 1) (nI (mn + 1))) ⟨(callB_of 3 hts (kx_good kw_921) rfl rfl rfl (hts _ (kx_m kw_53)) (hts _ (kx_m kw_919)) (by decide +kernel) ⟨Nat.le_of_ble_eq_true rfl, Nat.le_of_ble_eq_true rfl⟩), (hts _ (kx_m kw_920))⟩ (kx_preS hK hN (hP.sub [] kt_2_) (hD.sub [] (by decide) ks_2_)) rfl rfl hl.1 rfl (lv_room (Nat.le_of_ble_eq_true rfl)) dd_M_measure_13 ⟨Nat.le_of_ble_eq_true rfl, Nat.le_of_ble_eq_true rfl⟩) hP hD hS hA [] [0, 1] ks_2_ ks_2_0_1 (by decide) (by decide) (fun r13 u13 H locs hw13 hP hD hS => ?_)
  have hP : va_P D vwCl [(o, .inr (0, [.int (nI 0), .int (nI cn), .ref a0, .ref a1, .ref a2, .ref a3, .ref a4, .ref a5, .int (nI mn), .ref a6, .ref a7, .int (nI ps), .int (nI bk), .ref a8, .ref a9, .ref a10, .ref a11, .ref a12, .ref a13, .ref a14, .ref a15, .int (nI kf), .int lb, .int (nI lc), .long lo, .int (nI el), .int (nI ec), .long eo, .int eb, .long ed, .int (nI mp), .int (nI ml), .long md, .long mo, .int mb, .ref a16, .ref a17])), (a6, .inl (cI, 258, .inl me))] H := hP
  have hD : va_D A [(o, .inr (0, [.int (nI 0), .int (nI cn), .ref a0, .ref a1, .ref a2, .ref a3, .ref a4, .ref a5, .int (nI mn), .ref a6, .ref a7, .int (nI ps), .int (nI bk), .ref a8, .ref a9, .ref a10, .ref a11, .ref a12, .ref a13, .ref a14, .ref a15, .int (nI kf), .int lb, .int (nI lc), .long lo, .int (nI el), .int (nI ec), .long eo, .int eb, .long ed, .int (nI mp), .int (nI ml), .long md, .long mo, .int mb, .ref a16, .ref a17])), (a6, .inl (cI, 258, .inl me))] := hD
  have hw13 : r13 = kb_p (¬ k < (nI 1) ∧ ¬ (nI (mn + 1)) < k) := hw13
  subst hw13
  refine lv_if_eq (tgt := 33) hx hb dd_M_measure_16 (by decide) (fun c16 => ?_) (fun c16 => ?_)
  · skip
    have c16 : ¬ (¬ k < (nI 1) ∧ ¬ (nI (mn + 1)) < k) := kb_0.mp c16
    refine lv_iconst (v := nI 0) hx hb dd_M_measure_33 (by decide) ?_
    rw [hQ]
    exact kx_zret hx hb hr hlocks hK hN hS dd_M_measure_34 (by decide) (mn, me) hP hD (by have hno : ¬ pm_ms mn k w := (by first | exact fun q => c16 q.1 | exact fun q => q.2.1 c23 | exact fun q => c30 q.2.2); exact ⟨kb_f hno, by rw [if_neg hno]; exact ⟨rfl, rfl⟩⟩)
  · skip
    have c16 : ¬ k < (nI 1) ∧ ¬ (nI (mn + 1)) < k := kb_1.mp c16
    refine lv_iload_n hx hb dd_M_measure_19 rfl (lv_at hl 1 rfl) ?_
    refine lv_sipush (v := nI 256) hx hb dd_M_measure_20 (by decide) ?_
    refine lv_icmp_gt (tgt := 33) hx hb dd_M_measure_23 (by decide) (fun c23 => ?_) (fun c23 => ?_)
    · skip
      refine lv_iconst (v := nI 0) hx hb dd_M_measure_33 (by decide) ?_
      rw [hQ]
      exact kx_zret hx hb hr hlocks hK hN hS dd_M_measure_34 (by decide) (mn, me) hP hD (by have hno : ¬ pm_ms mn k w := (by first | exact fun q => c16 q.1 | exact fun q => q.2.1 c23 | exact fun q => c30 q.2.2); exact ⟨kb_f hno, by rw [if_neg hno]; exact ⟨rfl, rfl⟩⟩)
    · skip
      refine lv_iload_n hx hb dd_M_measure_26 rfl (lv_at hl 2 rfl) ?_
      refine kx_calli (wr := [(o, .inr (0, [.int (nI 0), .int (nI cn), .ref a0, .ref a1, .ref a2, .ref a3, .ref a4, .ref a5, .int (nI mn), .ref a6, .ref a7, .int (nI ps), .int (nI bk), .ref a8, .ref a9, .ref a10, .ref a11, .ref a12, .ref a13, .ref a14, .ref a15, .int (nI kf), .int lb, .int (nI lc), .long lo, .int (nI el), .int (nI ec), .long eo, .int eb, .long ed, .int (nI mp), .int (nI ml), .long md, .long mo, .int mb, .ref a16, .ref a17])), (a6, .inl (cI, 258, .inl me))]) (va_runS (As := [.int w]) (rest := []) ⟨hx, hb, hml, hown, hts⟩ (ct_M_isWidth l D cI cJ cZ H.size w) ⟨(callB_of 1 hts (kx_good kw_928) rfl rfl rfl (hts _ (kx_m kw_53)) (hts _ (kx_m kw_926)) (by decide +kernel) ⟨Nat.le_of_ble_eq_true rfl, Nat.le_of_ble_eq_true rfl⟩), (hts _ (kx_m kw_927))⟩ (kx_preS hK hN (hP.sub [] kt_2_) (hD.sub [] (by decide) ks_2_)) rfl rfl hl.1 rfl (lv_room (Nat.le_of_ble_eq_true rfl)) dd_M_measure_27 ⟨Nat.le_of_ble_eq_true rfl, Nat.le_of_ble_eq_true rfl⟩) hP hD hS hA [] [0, 1] ks_2_ ks_2_0_1 (by decide) (by decide) (fun r27 u27 H locs hw27 hP hD hS => ?_)
      have hP : va_P D vwCl [(o, .inr (0, [.int (nI 0), .int (nI cn), .ref a0, .ref a1, .ref a2, .ref a3, .ref a4, .ref a5, .int (nI mn), .ref a6, .ref a7, .int (nI ps), .int (nI bk), .ref a8, .ref a9, .ref a10, .ref a11, .ref a12, .ref a13, .ref a14, .ref a15, .int (nI kf), .int lb, .int (nI lc), .long lo, .int (nI el), .int (nI ec), .long eo, .int eb, .long ed, .int (nI mp), .int (nI ml), .long md, .long mo, .int mb, .ref a16, .ref a17])), (a6, .inl (cI, 258, .inl me))] H := hP
      have hD : va_D A [(o, .inr (0, [.int (nI 0), .int (nI cn), .ref a0, .ref a1, .ref a2, .ref a3, .ref a4, .ref a5, .int (nI mn), .ref a6, .ref a7, .int (nI ps), .int (nI bk), .ref a8, .ref a9, .ref a10, .ref a11, .ref a12, .ref a13, .ref a14, .ref a15, .int (nI kf), .int lb, .int (nI lc), .long lo, .int (nI el), .int (nI ec), .long eo, .int eb, .long ed, .int (nI mp), .int (nI ml), .long md, .long mo, .int mb, .ref a16, .ref a17])), (a6, .inl (cI, 258, .inl me))] := hD
      have hw27 : r27 = kb_p (¬ w < (-1073741823) ∧ ¬ nI 1073741823 < w) := hw27
      subst hw27
      refine lv_if_ne (tgt := 35) hx hb dd_M_measure_30 (by decide) (fun c30 => ?_) (fun c30 => ?_)
      · skip
        have c30 : ¬ w < (-1073741823) ∧ ¬ nI 1073741823 < w := kb_1.mp c30
        have hkb := (kn_box1 (by omega) c16.1 c16.2).2
        refine lv_aload_n hx hb dd_M_measure_35 rfl (lv_at hl 0 rfl) ?_
        refine lv_iload_n hx hb dd_M_measure_36 rfl (lv_at hl 1 rfl) ?_
        refine kx_toN (n := k.toNatClampNeg) ((kn_box1 (by omega) c16.1 c16.2).1) ?_
        refine va_put (D := D) (ci := 0) (v := .int (nI k.toNatClampNeg)) (ty := .int) (C := rr_M) (T := tt_M) (N := 37) hx hb hts hin0 ft_M ft_M_ok nn_M hown hK hP hD hS 0 kg_2_0 rfl 8 (by decide) lk2 (fun _ h9 => h9) rfl (by decide +kernel) rfl rfl (Nat.le_of_ble_eq_true rfl) dd_M_measure_37 (fun H locs hP hD hS => ?_)
        have hP : va_P D vwCl [(o, .inr (0, [.int (nI 0), .int (nI cn), .ref a0, .ref a1, .ref a2, .ref a3, .ref a4, .ref a5, .int (nI k.toNatClampNeg), .ref a6, .ref a7, .int (nI ps), .int (nI bk), .ref a8, .ref a9, .ref a10, .ref a11, .ref a12, .ref a13, .ref a14, .ref a15, .int (nI kf), .int lb, .int (nI lc), .long lo, .int (nI el), .int (nI ec), .long eo, .int eb, .long ed, .int (nI mp), .int (nI ml), .long md, .long mo, .int mb, .ref a16, .ref a17])), (a6, .inl (cI, 258, .inl me))] H := kx_cP kz_2_0 hP
        have hD : va_D A [(o, .inr (0, [.int (nI 0), .int (nI cn), .ref a0, .ref a1, .ref a2, .ref a3, .ref a4, .ref a5, .int (nI k.toNatClampNeg), .ref a6, .ref a7, .int (nI ps), .int (nI bk), .ref a8, .ref a9, .ref a10, .ref a11, .ref a12, .ref a13, .ref a14, .ref a15, .int (nI kf), .int lb, .int (nI lc), .long lo, .int (nI el), .int (nI ec), .long eo, .int eb, .long ed, .int (nI mp), .int (nI ml), .long md, .long mo, .int mb, .ref a16, .ref a17])), (a6, .inl (cI, 258, .inl me))] := kx_cD kz_2_0 hD
        refine lv_aload_n hx hb dd_M_measure_40 rfl (lv_at hl 0 rfl) ?_
        refine va_get (D := D) (ci := 0) (v := .ref a6) (C := rr_M) (T := tt_M) (N := 37) hx hb hts hin0 hown hK hP 0 kg_2_0 rfl 9 (by decide) lk3 (fun _ h9 => h9) rfl dd_M_measure_41 ?_
        refine lv_iload_n hx hb dd_M_measure_44 rfl (lv_at hl 1 rfl) ?_
        refine kx_toN (n := k.toNatClampNeg) ((kn_box1 (by omega) c16.1 c16.2).1) ?_
        refine lv_iload_n hx hb dd_M_measure_45 rfl (lv_at hl 2 rfl) ?_
        refine kx_iast (q0 := 1) (t0 := 0) hx hb dd_M_measure_46 hK hP hD hS kg_2_1 rfl (by omega) (by omega) (fun H locs hP hD hS => ?_)
        have hP : va_P D vwCl [(o, .inr (0, [.int (nI 0), .int (nI cn), .ref a0, .ref a1, .ref a2, .ref a3, .ref a4, .ref a5, .int (nI k.toNatClampNeg), .ref a6, .ref a7, .int (nI ps), .int (nI bk), .ref a8, .ref a9, .ref a10, .ref a11, .ref a12, .ref a13, .ref a14, .ref a15, .int (nI kf), .int lb, .int (nI lc), .long lo, .int (nI el), .int (nI ec), .long eo, .int eb, .long ed, .int (nI mp), .int (nI ml), .long md, .long mo, .int mb, .ref a16, .ref a17])), (a6, .inl (cI, 258, .inl (upd me k.toNatClampNeg w)))] H := kx_cP kz_2_1 hP
        have hD : va_D A [(o, .inr (0, [.int (nI 0), .int (nI cn), .ref a0, .ref a1, .ref a2, .ref a3, .ref a4, .ref a5, .int (nI k.toNatClampNeg), .ref a6, .ref a7, .int (nI ps), .int (nI bk), .ref a8, .ref a9, .ref a10, .ref a11, .ref a12, .ref a13, .ref a14, .ref a15, .int (nI kf), .int lb, .int (nI lc), .long lo, .int (nI el), .int (nI ec), .long eo, .int eb, .long ed, .int (nI mp), .int (nI ml), .long md, .long mo, .int mb, .ref a16, .ref a17])), (a6, .inl (cI, 258, .inl (upd me k.toNatClampNeg w)))] := kx_cD kz_2_1 hD
        refine lv_iconst (v := nI 1) hx hb dd_M_measure_47 (by decide) ?_
        rw [hQ]
        exact kx_zret hx hb hr hlocks hK hN hS dd_M_measure_48 (by decide) (k.toNatClampNeg, upd me k.toNatClampNeg w) hP hD (by refine ⟨kb_t ⟨c16, c23, c30⟩, by rw [if_pos ⟨c16, c23, c30⟩]; exact ⟨rfl, rfl⟩⟩)
      · skip
        have c30 : ¬ (¬ w < (-1073741823) ∧ ¬ nI 1073741823 < w) := kb_0.mp c30
        refine lv_iconst (v := nI 0) hx hb dd_M_measure_33 (by decide) ?_
        rw [hQ]
        exact kx_zret hx hb hr hlocks hK hN hS dd_M_measure_34 (by decide) (mn, me) hP hD (by have hno : ¬ pm_ms mn k w := (by first | exact fun q => c16 q.1 | exact fun q => q.2.1 c23 | exact fun q => c30 q.2.2); exact ⟨kb_f hno, by rw [if_neg hno]; exact ⟨rfl, rfl⟩⟩)

theorem dd_M_skip_0 : decode bb_M_skip 0 = .ok (.aload_n 0, 1) := by decide +kernel
theorem dd_M_skip_1 : decode bb_M_skip 1 = .ok (.iconst 0, 1) := by decide +kernel
theorem dd_M_skip_2 : decode bb_M_skip 2 = .ok (.putfield 71, 3) := by decide +kernel
theorem dd_M_skip_5 : decode bb_M_skip 5 = .ok (.iload_n 1, 1) := by decide +kernel
theorem dd_M_skip_6 : decode bb_M_skip 6 = .ok (.iconst 0, 1) := by decide +kernel
theorem dd_M_skip_7 : decode bb_M_skip 7 = .ok (.iconst 1, 1) := by decide +kernel
theorem dd_M_skip_8 : decode bb_M_skip 8 = .ok (.invokestatic 76, 3) := by decide +kernel
theorem dd_M_skip_11 : decode bb_M_skip 11 = .ok (.ifCond .eq (41), 3) := by decide +kernel
theorem dd_M_skip_14 : decode bb_M_skip 14 = .ok (.iload_n 2, 1) := by decide +kernel
theorem dd_M_skip_15 : decode bb_M_skip 15 = .ok (.invokestatic 81, 3) := by decide +kernel
theorem dd_M_skip_18 : decode bb_M_skip 18 = .ok (.ifCond .eq (34), 3) := by decide +kernel
theorem dd_M_skip_21 : decode bb_M_skip 21 = .ok (.iload_n 3, 1) := by decide +kernel
theorem dd_M_skip_22 : decode bb_M_skip 22 = .ok (.iconst 0, 1) := by decide +kernel
theorem dd_M_skip_23 : decode bb_M_skip 23 = .ok (.ldc 75, 2) := by decide +kernel
theorem dd_M_skip_25 : decode bb_M_skip 25 = .ok (.invokestatic 76, 3) := by decide +kernel
theorem dd_M_skip_28 : decode bb_M_skip 28 = .ok (.ifCond .eq (24), 3) := by decide +kernel
theorem dd_M_skip_31 : decode bb_M_skip 31 = .ok (.iload 4, 2) := by decide +kernel
theorem dd_M_skip_33 : decode bb_M_skip 33 = .ok (.iconst 0, 1) := by decide +kernel
theorem dd_M_skip_34 : decode bb_M_skip 34 = .ok (.iconst 3, 1) := by decide +kernel
theorem dd_M_skip_35 : decode bb_M_skip 35 = .ok (.invokestatic 76, 3) := by decide +kernel
theorem dd_M_skip_38 : decode bb_M_skip 38 = .ok (.ifCond .eq (14), 3) := by decide +kernel
theorem dd_M_skip_41 : decode bb_M_skip 41 = .ok (.iload 5, 2) := by decide +kernel
theorem dd_M_skip_43 : decode bb_M_skip 43 = .ok (.iconst 0, 1) := by decide +kernel
theorem dd_M_skip_44 : decode bb_M_skip 44 = .ok (.ldc 75, 2) := by decide +kernel
theorem dd_M_skip_46 : decode bb_M_skip 46 = .ok (.invokestatic 76, 3) := by decide +kernel
theorem dd_M_skip_49 : decode bb_M_skip 49 = .ok (.ifCond .ne (5), 3) := by decide +kernel
theorem dd_M_skip_52 : decode bb_M_skip 52 = .ok (.iconst 0, 1) := by decide +kernel
theorem dd_M_skip_53 : decode bb_M_skip 53 = .ok (.ireturn, 1) := by decide +kernel
theorem dd_M_skip_54 : decode bb_M_skip 54 = .ok (.aload_n 0, 1) := by decide +kernel
theorem dd_M_skip_55 : decode bb_M_skip 55 = .ok (.getfield 35, 3) := by decide +kernel
theorem dd_M_skip_58 : decode bb_M_skip 58 = .ok (.iconst 4, 1) := by decide +kernel
theorem dd_M_skip_59 : decode bb_M_skip 59 = .ok (.iload_n 1, 1) := by decide +kernel
theorem dd_M_skip_60 : decode bb_M_skip 60 = .ok (.imul, 1) := by decide +kernel
theorem dd_M_skip_61 : decode bb_M_skip 61 = .ok (.iload_n 2, 1) := by decide +kernel
theorem dd_M_skip_62 : decode bb_M_skip 62 = .ok (.iastore, 1) := by decide +kernel
theorem dd_M_skip_63 : decode bb_M_skip 63 = .ok (.aload_n 0, 1) := by decide +kernel
theorem dd_M_skip_64 : decode bb_M_skip 64 = .ok (.getfield 35, 3) := by decide +kernel
theorem dd_M_skip_67 : decode bb_M_skip 67 = .ok (.iconst 4, 1) := by decide +kernel
theorem dd_M_skip_68 : decode bb_M_skip 68 = .ok (.iload_n 1, 1) := by decide +kernel
theorem dd_M_skip_69 : decode bb_M_skip 69 = .ok (.imul, 1) := by decide +kernel
theorem dd_M_skip_70 : decode bb_M_skip 70 = .ok (.iconst 1, 1) := by decide +kernel
theorem dd_M_skip_71 : decode bb_M_skip 71 = .ok (.iadd, 1) := by decide +kernel
theorem dd_M_skip_72 : decode bb_M_skip 72 = .ok (.iload_n 3, 1) := by decide +kernel
theorem dd_M_skip_73 : decode bb_M_skip 73 = .ok (.iastore, 1) := by decide +kernel
theorem dd_M_skip_74 : decode bb_M_skip 74 = .ok (.aload_n 0, 1) := by decide +kernel
theorem dd_M_skip_75 : decode bb_M_skip 75 = .ok (.getfield 35, 3) := by decide +kernel
theorem dd_M_skip_78 : decode bb_M_skip 78 = .ok (.iconst 4, 1) := by decide +kernel
theorem dd_M_skip_79 : decode bb_M_skip 79 = .ok (.iload_n 1, 1) := by decide +kernel
theorem dd_M_skip_80 : decode bb_M_skip 80 = .ok (.imul, 1) := by decide +kernel
theorem dd_M_skip_81 : decode bb_M_skip 81 = .ok (.iconst 2, 1) := by decide +kernel
theorem dd_M_skip_82 : decode bb_M_skip 82 = .ok (.iadd, 1) := by decide +kernel
theorem dd_M_skip_83 : decode bb_M_skip 83 = .ok (.iload 4, 2) := by decide +kernel
theorem dd_M_skip_85 : decode bb_M_skip 85 = .ok (.iastore, 1) := by decide +kernel
theorem dd_M_skip_86 : decode bb_M_skip 86 = .ok (.aload_n 0, 1) := by decide +kernel
theorem dd_M_skip_87 : decode bb_M_skip 87 = .ok (.getfield 35, 3) := by decide +kernel
theorem dd_M_skip_90 : decode bb_M_skip 90 = .ok (.iconst 4, 1) := by decide +kernel
theorem dd_M_skip_91 : decode bb_M_skip 91 = .ok (.iload_n 1, 1) := by decide +kernel
theorem dd_M_skip_92 : decode bb_M_skip 92 = .ok (.imul, 1) := by decide +kernel
theorem dd_M_skip_93 : decode bb_M_skip 93 = .ok (.iconst 3, 1) := by decide +kernel
theorem dd_M_skip_94 : decode bb_M_skip 94 = .ok (.iadd, 1) := by decide +kernel
theorem dd_M_skip_95 : decode bb_M_skip 95 = .ok (.iload 5, 2) := by decide +kernel
theorem dd_M_skip_97 : decode bb_M_skip 97 = .ok (.iastore, 1) := by decide +kernel
theorem dd_M_skip_98 : decode bb_M_skip 98 = .ok (.iconst 1, 1) := by decide +kernel
theorem dd_M_skip_99 : decode bb_M_skip 99 = .ok (.ireturn, 1) := by decide +kernel

set_option maxHeartbeats 4000000 in
set_option maxRecDepth 100000 in
theorem ct_M_skip (l : Launch) (D : va_G) (cI cJ cZ : ClassId) (sz : Nat) (o : Nat) (th : Nat) (cn : Nat) (a0 : Nat) (a1 : Nat) (a2 : Nat) (a3 : Nat) (a4 : Nat) (a5 : Nat) (mn : Nat) (a6 : Nat) (a7 : Nat) (ps : Nat) (bk : Nat) (a8 : Nat) (a9 : Nat) (a10 : Nat) (a11 : Nat) (a12 : Nat) (a13 : Nat) (a14 : Nat) (a15 : Nat) (kf : Nat) (lb : Int32) (lc : Nat) (lo : Int64) (el : Nat) (ec : Nat) (eo : Int64) (eb : Int32) (ed : Int64) (mp : Nat) (ml : Nat) (md : Int64) (mo : Int64) (mb : Int32) (a16 : Nat) (a17 : Nat) (si : Nat → Int32) (sd : Int32) (w : Int32) (st2 : Int32) (or2 : Int32) (sh2 : Int32) : kx_Mi l yy_M_skip ww_M_skip ({ frames := 2, cells := 0, slots := 0, locals := 42 }) D vwCl (kx_ty cI cJ cZ) [.ref o, .int sd, .int w, .int st2, .int or2, .int sh2] [(o, .inr (0, [.int (nI th), .int (nI cn), .ref a0, .ref a1, .ref a2, .ref a3, .ref a4, .ref a5, .int (nI mn), .ref a6, .ref a7, .int (nI ps), .int (nI bk), .ref a8, .ref a9, .ref a10, .ref a11, .ref a12, .ref a13, .ref a14, .ref a15, .int (nI kf), .int lb, .int (nI lc), .long lo, .int (nI el), .int (nI ec), .long eo, .int eb, .long ed, .int (nI mp), .int (nI ml), .long md, .long mo, .int mb, .ref a16, .ref a17])), (a7, .inl (cI, 8, .inl si))] sz (fun (r : Int32) (u : (Nat → Int32)) => (r = kb_p (pm_sp sd w st2 or2 sh2)) ∧ (u = if pm_sp sd w st2 or2 sh2 then upd (upd (upd (upd si (4 * sd.toNatClampNeg) w) (4 * sd.toNatClampNeg + 1) st2) (4 * sd.toNatClampNeg + 2) or2) (4 * sd.toNatClampNeg + 3) sh2 else si)) (fun (u : (Nat → Int32)) => [(o, .inr (0, [.int (nI 0), .int (nI cn), .ref a0, .ref a1, .ref a2, .ref a3, .ref a4, .ref a5, .int (nI mn), .ref a6, .ref a7, .int (nI ps), .int (nI bk), .ref a8, .ref a9, .ref a10, .ref a11, .ref a12, .ref a13, .ref a14, .ref a15, .int (nI kf), .int lb, .int (nI lc), .long lo, .int (nI el), .int (nI ec), .long eo, .int eb, .long ed, .int (nI mp), .int (nI ml), .long md, .long mo, .int mb, .ref a16, .ref a17])), (a7, .inl (cI, 8, .inl u))]) 0 0 := by
  refine kx_starti (by decide) rfl (Nat.le_of_ble_eq_true rfl) ?_
  intro p e s m below meth c A ls hx hb hr hml hts hown hlocks hin hP hK hN hD hA hS hl
  have hl : lv_has ls 6 [(0, .ref o), (1, .int sd), (2, .int w), (3, .int st2), (4, .int or2), (5, .int sh2)] := hl
  have hown : s.vm.findClass rr_M = some m.cls := hown
  have lk0 := hts _ (kx_m kw_798)
  have hin0 : ∀ w ∈ u_ws rr_M tt_M 37, w ∈ ww_M_skip := fun w h => kx_m (kf_M w h)
  have lk2 := hts _ (kx_m kw_930)
  have lk3 := hts _ (kx_m kw_808)
  obtain ⟨H, hH⟩ : ∃ H, H = s.heap := ⟨_, rfl⟩
  obtain ⟨locs, hlocs⟩ : ∃ z : List Loc, z = [] := ⟨_, rfl⟩
  have hP : va_P D vwCl [(o, .inr (0, [.int (nI th), .int (nI cn), .ref a0, .ref a1, .ref a2, .ref a3, .ref a4, .ref a5, .int (nI mn), .ref a6, .ref a7, .int (nI ps), .int (nI bk), .ref a8, .ref a9, .ref a10, .ref a11, .ref a12, .ref a13, .ref a14, .ref a15, .int (nI kf), .int lb, .int (nI lc), .long lo, .int (nI el), .int (nI ec), .long eo, .int eb, .long ed, .int (nI mp), .int (nI ml), .long md, .long mo, .int mb, .ref a16, .ref a17])), (a7, .inl (cI, 8, .inl si))] H := by rw [hH]; exact hP
  have hS : va_S A s.heap H locs := by rw [hH, hlocs]; exact hS
  refine kx_gen hH hlocs ?_
  clear hH hlocs
  refine kx_nameQ (fun Q hQ => ?_)
  refine lv_aload_n hx hb dd_M_skip_0 rfl (lv_at hl 0 rfl) ?_
  refine lv_iconst (v := nI 0) hx hb dd_M_skip_1 (by decide) ?_
  refine va_put (D := D) (ci := 0) (v := .int (nI 0)) (ty := .int) (C := rr_M) (T := tt_M) (N := 37) hx hb hts hin0 ft_M ft_M_ok nn_M hown hK hP hD hS 0 kg_2_0 rfl 0 (by decide) lk0 (fun _ h9 => h9) rfl (by decide +kernel) rfl rfl (Nat.le_of_ble_eq_true rfl) dd_M_skip_2 (fun H locs hP hD hS => ?_)
  have hP : va_P D vwCl [(o, .inr (0, [.int (nI 0), .int (nI cn), .ref a0, .ref a1, .ref a2, .ref a3, .ref a4, .ref a5, .int (nI mn), .ref a6, .ref a7, .int (nI ps), .int (nI bk), .ref a8, .ref a9, .ref a10, .ref a11, .ref a12, .ref a13, .ref a14, .ref a15, .int (nI kf), .int lb, .int (nI lc), .long lo, .int (nI el), .int (nI ec), .long eo, .int eb, .long ed, .int (nI mp), .int (nI ml), .long md, .long mo, .int mb, .ref a16, .ref a17])), (a7, .inl (cI, 8, .inl si))] H := kx_cP kz_2_0 hP
  have hD : va_D A [(o, .inr (0, [.int (nI 0), .int (nI cn), .ref a0, .ref a1, .ref a2, .ref a3, .ref a4, .ref a5, .int (nI mn), .ref a6, .ref a7, .int (nI ps), .int (nI bk), .ref a8, .ref a9, .ref a10, .ref a11, .ref a12, .ref a13, .ref a14, .ref a15, .int (nI kf), .int lb, .int (nI lc), .long lo, .int (nI el), .int (nI ec), .long eo, .int eb, .long ed, .int (nI mp), .int (nI ml), .long md, .long mo, .int mb, .ref a16, .ref a17])), (a7, .inl (cI, 8, .inl si))] := kx_cD kz_2_0 hD
  refine lv_iload_n hx hb dd_M_skip_5 rfl (lv_at hl 1 rfl) ?_
  refine lv_iconst (v := nI 0) hx hb dd_M_skip_6 (by decide) ?_
  refine lv_iconst (v := nI 1) hx hb dd_M_skip_7 (by decide) ?_
  refine kx_calli (wr := [(o, .inr (0, [.int (nI 0), .int (nI cn), .ref a0, .ref a1, .ref a2, .ref a3, .ref a4, .ref a5, .int (nI mn), .ref a6, .ref a7, .int (nI ps), .int (nI bk), .ref a8, .ref a9, .ref a10, .ref a11, .ref a12, .ref a13, .ref a14, .ref a15, .int (nI kf), .int lb, .int (nI lc), .long lo, .int (nI el), .int (nI ec), .long eo, .int eb, .long ed, .int (nI mp), .int (nI ml), .long md, .long mo, .int mb, .ref a16, .ref a17])), (a7, .inl (cI, 8, .inl si))]) (va_runS (As := [.int sd, .int (nI 0), .int (nI 1)]) (rest := []) ⟨hx, hb, hml, hown, hts⟩ (ct_M_in l D cI cJ cZ H.size sd (nI 0) (nI 1)) ⟨(callB_of 3 hts (kx_good kw_921) rfl rfl rfl (hts _ (kx_m kw_53)) (hts _ (kx_m kw_919)) (by decide +kernel) ⟨Nat.le_of_ble_eq_true rfl, Nat.le_of_ble_eq_true rfl⟩), (hts _ (kx_m kw_920))⟩ (kx_preS hK hN (hP.sub [] kt_2_) (hD.sub [] (by decide) ks_2_)) rfl rfl hl.1 rfl (lv_room (Nat.le_of_ble_eq_true rfl)) dd_M_skip_8 ⟨Nat.le_of_ble_eq_true rfl, Nat.le_of_ble_eq_true rfl⟩) hP hD hS hA [] [0, 1] ks_2_ ks_2_0_1 (by decide) (by decide) (fun r8 u8 H locs hw8 hP hD hS => ?_)
  have hP : va_P D vwCl [(o, .inr (0, [.int (nI 0), .int (nI cn), .ref a0, .ref a1, .ref a2, .ref a3, .ref a4, .ref a5, .int (nI mn), .ref a6, .ref a7, .int (nI ps), .int (nI bk), .ref a8, .ref a9, .ref a10, .ref a11, .ref a12, .ref a13, .ref a14, .ref a15, .int (nI kf), .int lb, .int (nI lc), .long lo, .int (nI el), .int (nI ec), .long eo, .int eb, .long ed, .int (nI mp), .int (nI ml), .long md, .long mo, .int mb, .ref a16, .ref a17])), (a7, .inl (cI, 8, .inl si))] H := hP
  have hD : va_D A [(o, .inr (0, [.int (nI 0), .int (nI cn), .ref a0, .ref a1, .ref a2, .ref a3, .ref a4, .ref a5, .int (nI mn), .ref a6, .ref a7, .int (nI ps), .int (nI bk), .ref a8, .ref a9, .ref a10, .ref a11, .ref a12, .ref a13, .ref a14, .ref a15, .int (nI kf), .int lb, .int (nI lc), .long lo, .int (nI el), .int (nI ec), .long eo, .int eb, .long ed, .int (nI mp), .int (nI ml), .long md, .long mo, .int mb, .ref a16, .ref a17])), (a7, .inl (cI, 8, .inl si))] := hD
  have hw8 : r8 = kb_p (¬ sd < (nI 0) ∧ ¬ (nI 1) < sd) := hw8
  subst hw8
  refine lv_if_eq (tgt := 52) hx hb dd_M_skip_11 (by decide) (fun c11 => ?_) (fun c11 => ?_)
  · skip
    have c11 : ¬ (¬ sd < (nI 0) ∧ ¬ (nI 1) < sd) := kb_0.mp c11
    refine lv_iconst (v := nI 0) hx hb dd_M_skip_52 (by decide) ?_
    rw [hQ]
    exact kx_zret hx hb hr hlocks hK hN hS dd_M_skip_53 (by decide) si hP hD (by have hno : ¬ pm_sp sd w st2 or2 sh2 := (by first | exact fun q => c11 q.1 | exact fun q => c18 q.2.1 | exact fun q => c28 q.2.2.1 | exact fun q => c38 q.2.2.2.1 | exact fun q => c49 q.2.2.2.2); exact ⟨kb_f hno, by rw [if_neg hno]⟩)
  · skip
    have c11 : ¬ sd < (nI 0) ∧ ¬ (nI 1) < sd := kb_1.mp c11
    refine lv_iload_n hx hb dd_M_skip_14 rfl (lv_at hl 2 rfl) ?_
    refine kx_calli (wr := [(o, .inr (0, [.int (nI 0), .int (nI cn), .ref a0, .ref a1, .ref a2, .ref a3, .ref a4, .ref a5, .int (nI mn), .ref a6, .ref a7, .int (nI ps), .int (nI bk), .ref a8, .ref a9, .ref a10, .ref a11, .ref a12, .ref a13, .ref a14, .ref a15, .int (nI kf), .int lb, .int (nI lc), .long lo, .int (nI el), .int (nI ec), .long eo, .int eb, .long ed, .int (nI mp), .int (nI ml), .long md, .long mo, .int mb, .ref a16, .ref a17])), (a7, .inl (cI, 8, .inl si))]) (va_runS (As := [.int w]) (rest := []) ⟨hx, hb, hml, hown, hts⟩ (ct_M_isWidth l D cI cJ cZ H.size w) ⟨(callB_of 1 hts (kx_good kw_928) rfl rfl rfl (hts _ (kx_m kw_53)) (hts _ (kx_m kw_926)) (by decide +kernel) ⟨Nat.le_of_ble_eq_true rfl, Nat.le_of_ble_eq_true rfl⟩), (hts _ (kx_m kw_927))⟩ (kx_preS hK hN (hP.sub [] kt_2_) (hD.sub [] (by decide) ks_2_)) rfl rfl hl.1 rfl (lv_room (Nat.le_of_ble_eq_true rfl)) dd_M_skip_15 ⟨Nat.le_of_ble_eq_true rfl, Nat.le_of_ble_eq_true rfl⟩) hP hD hS hA [] [0, 1] ks_2_ ks_2_0_1 (by decide) (by decide) (fun r15 u15 H locs hw15 hP hD hS => ?_)
    have hP : va_P D vwCl [(o, .inr (0, [.int (nI 0), .int (nI cn), .ref a0, .ref a1, .ref a2, .ref a3, .ref a4, .ref a5, .int (nI mn), .ref a6, .ref a7, .int (nI ps), .int (nI bk), .ref a8, .ref a9, .ref a10, .ref a11, .ref a12, .ref a13, .ref a14, .ref a15, .int (nI kf), .int lb, .int (nI lc), .long lo, .int (nI el), .int (nI ec), .long eo, .int eb, .long ed, .int (nI mp), .int (nI ml), .long md, .long mo, .int mb, .ref a16, .ref a17])), (a7, .inl (cI, 8, .inl si))] H := hP
    have hD : va_D A [(o, .inr (0, [.int (nI 0), .int (nI cn), .ref a0, .ref a1, .ref a2, .ref a3, .ref a4, .ref a5, .int (nI mn), .ref a6, .ref a7, .int (nI ps), .int (nI bk), .ref a8, .ref a9, .ref a10, .ref a11, .ref a12, .ref a13, .ref a14, .ref a15, .int (nI kf), .int lb, .int (nI lc), .long lo, .int (nI el), .int (nI ec), .long eo, .int eb, .long ed, .int (nI mp), .int (nI ml), .long md, .long mo, .int mb, .ref a16, .ref a17])), (a7, .inl (cI, 8, .inl si))] := hD
    have hw15 : r15 = kb_p (¬ w < (-1073741823) ∧ ¬ nI 1073741823 < w) := hw15
    subst hw15
    refine lv_if_eq (tgt := 52) hx hb dd_M_skip_18 (by decide) (fun c18 => ?_) (fun c18 => ?_)
    · skip
      have c18 : ¬ (¬ w < (-1073741823) ∧ ¬ nI 1073741823 < w) := kb_0.mp c18
      refine lv_iconst (v := nI 0) hx hb dd_M_skip_52 (by decide) ?_
      rw [hQ]
      exact kx_zret hx hb hr hlocks hK hN hS dd_M_skip_53 (by decide) si hP hD (by have hno : ¬ pm_sp sd w st2 or2 sh2 := (by first | exact fun q => c11 q.1 | exact fun q => c18 q.2.1 | exact fun q => c28 q.2.2.1 | exact fun q => c38 q.2.2.2.1 | exact fun q => c49 q.2.2.2.2); exact ⟨kb_f hno, by rw [if_neg hno]⟩)
    · skip
      have c18 : ¬ w < (-1073741823) ∧ ¬ nI 1073741823 < w := kb_1.mp c18
      refine lv_iload_n hx hb dd_M_skip_21 rfl (lv_at hl 3 rfl) ?_
      refine lv_iconst (v := nI 0) hx hb dd_M_skip_22 (by decide) ?_
      refine lv_ldc (v := nI 1073741823) hx hb hown lk2 dd_M_skip_23 ?_
      refine kx_calli (wr := [(o, .inr (0, [.int (nI 0), .int (nI cn), .ref a0, .ref a1, .ref a2, .ref a3, .ref a4, .ref a5, .int (nI mn), .ref a6, .ref a7, .int (nI ps), .int (nI bk), .ref a8, .ref a9, .ref a10, .ref a11, .ref a12, .ref a13, .ref a14, .ref a15, .int (nI kf), .int lb, .int (nI lc), .long lo, .int (nI el), .int (nI ec), .long eo, .int eb, .long ed, .int (nI mp), .int (nI ml), .long md, .long mo, .int mb, .ref a16, .ref a17])), (a7, .inl (cI, 8, .inl si))]) (va_runS (As := [.int st2, .int (nI 0), .int (nI 1073741823)]) (rest := []) ⟨hx, hb, hml, hown, hts⟩ (ct_M_in l D cI cJ cZ H.size st2 (nI 0) (nI 1073741823)) ⟨(callB_of 3 hts (kx_good kw_921) rfl rfl rfl (hts _ (kx_m kw_53)) (hts _ (kx_m kw_919)) (by decide +kernel) ⟨Nat.le_of_ble_eq_true rfl, Nat.le_of_ble_eq_true rfl⟩), (hts _ (kx_m kw_920))⟩ (kx_preS hK hN (hP.sub [] kt_2_) (hD.sub [] (by decide) ks_2_)) rfl rfl hl.1 rfl (lv_room (Nat.le_of_ble_eq_true rfl)) dd_M_skip_25 ⟨Nat.le_of_ble_eq_true rfl, Nat.le_of_ble_eq_true rfl⟩) hP hD hS hA [] [0, 1] ks_2_ ks_2_0_1 (by decide) (by decide) (fun r25 u25 H locs hw25 hP hD hS => ?_)
      have hP : va_P D vwCl [(o, .inr (0, [.int (nI 0), .int (nI cn), .ref a0, .ref a1, .ref a2, .ref a3, .ref a4, .ref a5, .int (nI mn), .ref a6, .ref a7, .int (nI ps), .int (nI bk), .ref a8, .ref a9, .ref a10, .ref a11, .ref a12, .ref a13, .ref a14, .ref a15, .int (nI kf), .int lb, .int (nI lc), .long lo, .int (nI el), .int (nI ec), .long eo, .int eb, .long ed, .int (nI mp), .int (nI ml), .long md, .long mo, .int mb, .ref a16, .ref a17])), (a7, .inl (cI, 8, .inl si))] H := hP
      have hD : va_D A [(o, .inr (0, [.int (nI 0), .int (nI cn), .ref a0, .ref a1, .ref a2, .ref a3, .ref a4, .ref a5, .int (nI mn), .ref a6, .ref a7, .int (nI ps), .int (nI bk), .ref a8, .ref a9, .ref a10, .ref a11, .ref a12, .ref a13, .ref a14, .ref a15, .int (nI kf), .int lb, .int (nI lc), .long lo, .int (nI el), .int (nI ec), .long eo, .int eb, .long ed, .int (nI mp), .int (nI ml), .long md, .long mo, .int mb, .ref a16, .ref a17])), (a7, .inl (cI, 8, .inl si))] := hD
      have hw25 : r25 = kb_p (¬ st2 < (nI 0) ∧ ¬ (nI 1073741823) < st2) := hw25
      subst hw25
      refine lv_if_eq (tgt := 52) hx hb dd_M_skip_28 (by decide) (fun c28 => ?_) (fun c28 => ?_)
      · skip
        have c28 : ¬ (¬ st2 < (nI 0) ∧ ¬ (nI 1073741823) < st2) := kb_0.mp c28
        refine lv_iconst (v := nI 0) hx hb dd_M_skip_52 (by decide) ?_
        rw [hQ]
        exact kx_zret hx hb hr hlocks hK hN hS dd_M_skip_53 (by decide) si hP hD (by have hno : ¬ pm_sp sd w st2 or2 sh2 := (by first | exact fun q => c11 q.1 | exact fun q => c18 q.2.1 | exact fun q => c28 q.2.2.1 | exact fun q => c38 q.2.2.2.1 | exact fun q => c49 q.2.2.2.2); exact ⟨kb_f hno, by rw [if_neg hno]⟩)
      · skip
        have c28 : ¬ st2 < (nI 0) ∧ ¬ (nI 1073741823) < st2 := kb_1.mp c28
        refine lv_iload hx hb dd_M_skip_31 (lv_at hl 4 rfl) ?_
        refine lv_iconst (v := nI 0) hx hb dd_M_skip_33 (by decide) ?_
        refine lv_iconst (v := nI 3) hx hb dd_M_skip_34 (by decide) ?_
        refine kx_calli (wr := [(o, .inr (0, [.int (nI 0), .int (nI cn), .ref a0, .ref a1, .ref a2, .ref a3, .ref a4, .ref a5, .int (nI mn), .ref a6, .ref a7, .int (nI ps), .int (nI bk), .ref a8, .ref a9, .ref a10, .ref a11, .ref a12, .ref a13, .ref a14, .ref a15, .int (nI kf), .int lb, .int (nI lc), .long lo, .int (nI el), .int (nI ec), .long eo, .int eb, .long ed, .int (nI mp), .int (nI ml), .long md, .long mo, .int mb, .ref a16, .ref a17])), (a7, .inl (cI, 8, .inl si))]) (va_runS (As := [.int or2, .int (nI 0), .int (nI 3)]) (rest := []) ⟨hx, hb, hml, hown, hts⟩ (ct_M_in l D cI cJ cZ H.size or2 (nI 0) (nI 3)) ⟨(callB_of 3 hts (kx_good kw_921) rfl rfl rfl (hts _ (kx_m kw_53)) (hts _ (kx_m kw_919)) (by decide +kernel) ⟨Nat.le_of_ble_eq_true rfl, Nat.le_of_ble_eq_true rfl⟩), (hts _ (kx_m kw_920))⟩ (kx_preS hK hN (hP.sub [] kt_2_) (hD.sub [] (by decide) ks_2_)) rfl rfl hl.1 rfl (lv_room (Nat.le_of_ble_eq_true rfl)) dd_M_skip_35 ⟨Nat.le_of_ble_eq_true rfl, Nat.le_of_ble_eq_true rfl⟩) hP hD hS hA [] [0, 1] ks_2_ ks_2_0_1 (by decide) (by decide) (fun r35 u35 H locs hw35 hP hD hS => ?_)
        have hP : va_P D vwCl [(o, .inr (0, [.int (nI 0), .int (nI cn), .ref a0, .ref a1, .ref a2, .ref a3, .ref a4, .ref a5, .int (nI mn), .ref a6, .ref a7, .int (nI ps), .int (nI bk), .ref a8, .ref a9, .ref a10, .ref a11, .ref a12, .ref a13, .ref a14, .ref a15, .int (nI kf), .int lb, .int (nI lc), .long lo, .int (nI el), .int (nI ec), .long eo, .int eb, .long ed, .int (nI mp), .int (nI ml), .long md, .long mo, .int mb, .ref a16, .ref a17])), (a7, .inl (cI, 8, .inl si))] H := hP
        have hD : va_D A [(o, .inr (0, [.int (nI 0), .int (nI cn), .ref a0, .ref a1, .ref a2, .ref a3, .ref a4, .ref a5, .int (nI mn), .ref a6, .ref a7, .int (nI ps), .int (nI bk), .ref a8, .ref a9, .ref a10, .ref a11, .ref a12, .ref a13, .ref a14, .ref a15, .int (nI kf), .int lb, .int (nI lc), .long lo, .int (nI el), .int (nI ec), .long eo, .int eb, .long ed, .int (nI mp), .int (nI ml), .long md, .long mo, .int mb, .ref a16, .ref a17])), (a7, .inl (cI, 8, .inl si))] := hD
        have hw35 : r35 = kb_p (¬ or2 < (nI 0) ∧ ¬ (nI 3) < or2) := hw35
        subst hw35
        refine lv_if_eq (tgt := 52) hx hb dd_M_skip_38 (by decide) (fun c38 => ?_) (fun c38 => ?_)
        · skip
          have c38 : ¬ (¬ or2 < (nI 0) ∧ ¬ (nI 3) < or2) := kb_0.mp c38
          refine lv_iconst (v := nI 0) hx hb dd_M_skip_52 (by decide) ?_
          rw [hQ]
          exact kx_zret hx hb hr hlocks hK hN hS dd_M_skip_53 (by decide) si hP hD (by have hno : ¬ pm_sp sd w st2 or2 sh2 := (by first | exact fun q => c11 q.1 | exact fun q => c18 q.2.1 | exact fun q => c28 q.2.2.1 | exact fun q => c38 q.2.2.2.1 | exact fun q => c49 q.2.2.2.2); exact ⟨kb_f hno, by rw [if_neg hno]⟩)
        · skip
          have c38 : ¬ or2 < (nI 0) ∧ ¬ (nI 3) < or2 := kb_1.mp c38
          refine lv_iload hx hb dd_M_skip_41 (lv_at hl 5 rfl) ?_
          refine lv_iconst (v := nI 0) hx hb dd_M_skip_43 (by decide) ?_
          refine lv_ldc (v := nI 1073741823) hx hb hown lk2 dd_M_skip_44 ?_
          refine kx_calli (wr := [(o, .inr (0, [.int (nI 0), .int (nI cn), .ref a0, .ref a1, .ref a2, .ref a3, .ref a4, .ref a5, .int (nI mn), .ref a6, .ref a7, .int (nI ps), .int (nI bk), .ref a8, .ref a9, .ref a10, .ref a11, .ref a12, .ref a13, .ref a14, .ref a15, .int (nI kf), .int lb, .int (nI lc), .long lo, .int (nI el), .int (nI ec), .long eo, .int eb, .long ed, .int (nI mp), .int (nI ml), .long md, .long mo, .int mb, .ref a16, .ref a17])), (a7, .inl (cI, 8, .inl si))]) (va_runS (As := [.int sh2, .int (nI 0), .int (nI 1073741823)]) (rest := []) ⟨hx, hb, hml, hown, hts⟩ (ct_M_in l D cI cJ cZ H.size sh2 (nI 0) (nI 1073741823)) ⟨(callB_of 3 hts (kx_good kw_921) rfl rfl rfl (hts _ (kx_m kw_53)) (hts _ (kx_m kw_919)) (by decide +kernel) ⟨Nat.le_of_ble_eq_true rfl, Nat.le_of_ble_eq_true rfl⟩), (hts _ (kx_m kw_920))⟩ (kx_preS hK hN (hP.sub [] kt_2_) (hD.sub [] (by decide) ks_2_)) rfl rfl hl.1 rfl (lv_room (Nat.le_of_ble_eq_true rfl)) dd_M_skip_46 ⟨Nat.le_of_ble_eq_true rfl, Nat.le_of_ble_eq_true rfl⟩) hP hD hS hA [] [0, 1] ks_2_ ks_2_0_1 (by decide) (by decide) (fun r46 u46 H locs hw46 hP hD hS => ?_)
          have hP : va_P D vwCl [(o, .inr (0, [.int (nI 0), .int (nI cn), .ref a0, .ref a1, .ref a2, .ref a3, .ref a4, .ref a5, .int (nI mn), .ref a6, .ref a7, .int (nI ps), .int (nI bk), .ref a8, .ref a9, .ref a10, .ref a11, .ref a12, .ref a13, .ref a14, .ref a15, .int (nI kf), .int lb, .int (nI lc), .long lo, .int (nI el), .int (nI ec), .long eo, .int eb, .long ed, .int (nI mp), .int (nI ml), .long md, .long mo, .int mb, .ref a16, .ref a17])), (a7, .inl (cI, 8, .inl si))] H := hP
          have hD : va_D A [(o, .inr (0, [.int (nI 0), .int (nI cn), .ref a0, .ref a1, .ref a2, .ref a3, .ref a4, .ref a5, .int (nI mn), .ref a6, .ref a7, .int (nI ps), .int (nI bk), .ref a8, .ref a9, .ref a10, .ref a11, .ref a12, .ref a13, .ref a14, .ref a15, .int (nI kf), .int lb, .int (nI lc), .long lo, .int (nI el), .int (nI ec), .long eo, .int eb, .long ed, .int (nI mp), .int (nI ml), .long md, .long mo, .int mb, .ref a16, .ref a17])), (a7, .inl (cI, 8, .inl si))] := hD
          have hw46 : r46 = kb_p (¬ sh2 < (nI 0) ∧ ¬ (nI 1073741823) < sh2) := hw46
          subst hw46
          refine lv_if_ne (tgt := 54) hx hb dd_M_skip_49 (by decide) (fun c49 => ?_) (fun c49 => ?_)
          · skip
            have c49 : ¬ sh2 < (nI 0) ∧ ¬ (nI 1073741823) < sh2 := kb_1.mp c49
            have hsb := (kn_box (n := 1) (by decide) c11.1 c11.2).2
            refine lv_aload_n hx hb dd_M_skip_54 rfl (lv_at hl 0 rfl) ?_
            refine va_get (D := D) (ci := 0) (v := .ref a7) (C := rr_M) (T := tt_M) (N := 37) hx hb hts hin0 hown hK hP 0 kg_2_0 rfl 10 (by decide) lk3 (fun _ h9 => h9) rfl dd_M_skip_55 ?_
            refine lv_iconst (v := nI 4) hx hb dd_M_skip_58 (by decide) ?_
            refine lv_iload_n hx hb dd_M_skip_59 rfl (lv_at hl 1 rfl) ?_
            refine kx_toN (n := sd.toNatClampNeg) ((kn_box (by decide) c11.1 c11.2).1) ?_
            refine kx_imul hx hb dd_M_skip_60 ?_
            refine lv_iload_n hx hb dd_M_skip_61 rfl (lv_at hl 2 rfl) ?_
            refine kx_iast (q0 := 1) (t0 := 0) hx hb dd_M_skip_62 hK hP hD hS kg_2_1 rfl (by omega) (by omega) (fun H locs hP hD hS => ?_)
            have hP : va_P D vwCl [(o, .inr (0, [.int (nI 0), .int (nI cn), .ref a0, .ref a1, .ref a2, .ref a3, .ref a4, .ref a5, .int (nI mn), .ref a6, .ref a7, .int (nI ps), .int (nI bk), .ref a8, .ref a9, .ref a10, .ref a11, .ref a12, .ref a13, .ref a14, .ref a15, .int (nI kf), .int lb, .int (nI lc), .long lo, .int (nI el), .int (nI ec), .long eo, .int eb, .long ed, .int (nI mp), .int (nI ml), .long md, .long mo, .int mb, .ref a16, .ref a17])), (a7, .inl (cI, 8, .inl (upd si (4 * sd.toNatClampNeg) w)))] H := kx_cP kz_2_1 hP
            have hD : va_D A [(o, .inr (0, [.int (nI 0), .int (nI cn), .ref a0, .ref a1, .ref a2, .ref a3, .ref a4, .ref a5, .int (nI mn), .ref a6, .ref a7, .int (nI ps), .int (nI bk), .ref a8, .ref a9, .ref a10, .ref a11, .ref a12, .ref a13, .ref a14, .ref a15, .int (nI kf), .int lb, .int (nI lc), .long lo, .int (nI el), .int (nI ec), .long eo, .int eb, .long ed, .int (nI mp), .int (nI ml), .long md, .long mo, .int mb, .ref a16, .ref a17])), (a7, .inl (cI, 8, .inl (upd si (4 * sd.toNatClampNeg) w)))] := kx_cD kz_2_1 hD
            refine lv_aload_n hx hb dd_M_skip_63 rfl (lv_at hl 0 rfl) ?_
            refine va_get (D := D) (ci := 0) (v := .ref a7) (C := rr_M) (T := tt_M) (N := 37) hx hb hts hin0 hown hK hP 0 kg_2_0 rfl 10 (by decide) lk3 (fun _ h9 => h9) rfl dd_M_skip_64 ?_
            refine lv_iconst (v := nI 4) hx hb dd_M_skip_67 (by decide) ?_
            refine lv_iload_n hx hb dd_M_skip_68 rfl (lv_at hl 1 rfl) ?_
            refine kx_toN (n := sd.toNatClampNeg) ((kn_box (by decide) c11.1 c11.2).1) ?_
            refine kx_imul hx hb dd_M_skip_69 ?_
            refine lv_iconst (v := nI 1) hx hb dd_M_skip_70 (by decide) ?_
            refine kx_iadd hx hb dd_M_skip_71 ?_
            refine lv_iload_n hx hb dd_M_skip_72 rfl (lv_at hl 3 rfl) ?_
            refine kx_iast (q0 := 1) (t0 := 0) hx hb dd_M_skip_73 hK hP hD hS kg_2_1 rfl (by omega) (by omega) (fun H locs hP hD hS => ?_)
            have hP : va_P D vwCl [(o, .inr (0, [.int (nI 0), .int (nI cn), .ref a0, .ref a1, .ref a2, .ref a3, .ref a4, .ref a5, .int (nI mn), .ref a6, .ref a7, .int (nI ps), .int (nI bk), .ref a8, .ref a9, .ref a10, .ref a11, .ref a12, .ref a13, .ref a14, .ref a15, .int (nI kf), .int lb, .int (nI lc), .long lo, .int (nI el), .int (nI ec), .long eo, .int eb, .long ed, .int (nI mp), .int (nI ml), .long md, .long mo, .int mb, .ref a16, .ref a17])), (a7, .inl (cI, 8, .inl (upd (upd si (4 * sd.toNatClampNeg) w) ((4 * sd.toNatClampNeg) + 1) st2)))] H := kx_cP kz_2_1 hP
            have hD : va_D A [(o, .inr (0, [.int (nI 0), .int (nI cn), .ref a0, .ref a1, .ref a2, .ref a3, .ref a4, .ref a5, .int (nI mn), .ref a6, .ref a7, .int (nI ps), .int (nI bk), .ref a8, .ref a9, .ref a10, .ref a11, .ref a12, .ref a13, .ref a14, .ref a15, .int (nI kf), .int lb, .int (nI lc), .long lo, .int (nI el), .int (nI ec), .long eo, .int eb, .long ed, .int (nI mp), .int (nI ml), .long md, .long mo, .int mb, .ref a16, .ref a17])), (a7, .inl (cI, 8, .inl (upd (upd si (4 * sd.toNatClampNeg) w) ((4 * sd.toNatClampNeg) + 1) st2)))] := kx_cD kz_2_1 hD
            refine lv_aload_n hx hb dd_M_skip_74 rfl (lv_at hl 0 rfl) ?_
            refine va_get (D := D) (ci := 0) (v := .ref a7) (C := rr_M) (T := tt_M) (N := 37) hx hb hts hin0 hown hK hP 0 kg_2_0 rfl 10 (by decide) lk3 (fun _ h9 => h9) rfl dd_M_skip_75 ?_
            refine lv_iconst (v := nI 4) hx hb dd_M_skip_78 (by decide) ?_
            refine lv_iload_n hx hb dd_M_skip_79 rfl (lv_at hl 1 rfl) ?_
            refine kx_toN (n := sd.toNatClampNeg) ((kn_box (by decide) c11.1 c11.2).1) ?_
            refine kx_imul hx hb dd_M_skip_80 ?_
            refine lv_iconst (v := nI 2) hx hb dd_M_skip_81 (by decide) ?_
            refine kx_iadd hx hb dd_M_skip_82 ?_
            refine lv_iload hx hb dd_M_skip_83 (lv_at hl 4 rfl) ?_
            refine kx_iast (q0 := 1) (t0 := 0) hx hb dd_M_skip_85 hK hP hD hS kg_2_1 rfl (by omega) (by omega) (fun H locs hP hD hS => ?_)
            have hP : va_P D vwCl [(o, .inr (0, [.int (nI 0), .int (nI cn), .ref a0, .ref a1, .ref a2, .ref a3, .ref a4, .ref a5, .int (nI mn), .ref a6, .ref a7, .int (nI ps), .int (nI bk), .ref a8, .ref a9, .ref a10, .ref a11, .ref a12, .ref a13, .ref a14, .ref a15, .int (nI kf), .int lb, .int (nI lc), .long lo, .int (nI el), .int (nI ec), .long eo, .int eb, .long ed, .int (nI mp), .int (nI ml), .long md, .long mo, .int mb, .ref a16, .ref a17])), (a7, .inl (cI, 8, .inl (upd (upd (upd si (4 * sd.toNatClampNeg) w) ((4 * sd.toNatClampNeg) + 1) st2) ((4 * sd.toNatClampNeg) + 2) or2)))] H := kx_cP kz_2_1 hP
            have hD : va_D A [(o, .inr (0, [.int (nI 0), .int (nI cn), .ref a0, .ref a1, .ref a2, .ref a3, .ref a4, .ref a5, .int (nI mn), .ref a6, .ref a7, .int (nI ps), .int (nI bk), .ref a8, .ref a9, .ref a10, .ref a11, .ref a12, .ref a13, .ref a14, .ref a15, .int (nI kf), .int lb, .int (nI lc), .long lo, .int (nI el), .int (nI ec), .long eo, .int eb, .long ed, .int (nI mp), .int (nI ml), .long md, .long mo, .int mb, .ref a16, .ref a17])), (a7, .inl (cI, 8, .inl (upd (upd (upd si (4 * sd.toNatClampNeg) w) ((4 * sd.toNatClampNeg) + 1) st2) ((4 * sd.toNatClampNeg) + 2) or2)))] := kx_cD kz_2_1 hD
            refine lv_aload_n hx hb dd_M_skip_86 rfl (lv_at hl 0 rfl) ?_
            refine va_get (D := D) (ci := 0) (v := .ref a7) (C := rr_M) (T := tt_M) (N := 37) hx hb hts hin0 hown hK hP 0 kg_2_0 rfl 10 (by decide) lk3 (fun _ h9 => h9) rfl dd_M_skip_87 ?_
            refine lv_iconst (v := nI 4) hx hb dd_M_skip_90 (by decide) ?_
            refine lv_iload_n hx hb dd_M_skip_91 rfl (lv_at hl 1 rfl) ?_
            refine kx_toN (n := sd.toNatClampNeg) ((kn_box (by decide) c11.1 c11.2).1) ?_
            refine kx_imul hx hb dd_M_skip_92 ?_
            refine lv_iconst (v := nI 3) hx hb dd_M_skip_93 (by decide) ?_
            refine kx_iadd hx hb dd_M_skip_94 ?_
            refine lv_iload hx hb dd_M_skip_95 (lv_at hl 5 rfl) ?_
            refine kx_iast (q0 := 1) (t0 := 0) hx hb dd_M_skip_97 hK hP hD hS kg_2_1 rfl (by omega) (by omega) (fun H locs hP hD hS => ?_)
            have hP : va_P D vwCl [(o, .inr (0, [.int (nI 0), .int (nI cn), .ref a0, .ref a1, .ref a2, .ref a3, .ref a4, .ref a5, .int (nI mn), .ref a6, .ref a7, .int (nI ps), .int (nI bk), .ref a8, .ref a9, .ref a10, .ref a11, .ref a12, .ref a13, .ref a14, .ref a15, .int (nI kf), .int lb, .int (nI lc), .long lo, .int (nI el), .int (nI ec), .long eo, .int eb, .long ed, .int (nI mp), .int (nI ml), .long md, .long mo, .int mb, .ref a16, .ref a17])), (a7, .inl (cI, 8, .inl (upd (upd (upd (upd si (4 * sd.toNatClampNeg) w) ((4 * sd.toNatClampNeg) + 1) st2) ((4 * sd.toNatClampNeg) + 2) or2) ((4 * sd.toNatClampNeg) + 3) sh2)))] H := kx_cP kz_2_1 hP
            have hD : va_D A [(o, .inr (0, [.int (nI 0), .int (nI cn), .ref a0, .ref a1, .ref a2, .ref a3, .ref a4, .ref a5, .int (nI mn), .ref a6, .ref a7, .int (nI ps), .int (nI bk), .ref a8, .ref a9, .ref a10, .ref a11, .ref a12, .ref a13, .ref a14, .ref a15, .int (nI kf), .int lb, .int (nI lc), .long lo, .int (nI el), .int (nI ec), .long eo, .int eb, .long ed, .int (nI mp), .int (nI ml), .long md, .long mo, .int mb, .ref a16, .ref a17])), (a7, .inl (cI, 8, .inl (upd (upd (upd (upd si (4 * sd.toNatClampNeg) w) ((4 * sd.toNatClampNeg) + 1) st2) ((4 * sd.toNatClampNeg) + 2) or2) ((4 * sd.toNatClampNeg) + 3) sh2)))] := kx_cD kz_2_1 hD
            refine lv_iconst (v := nI 1) hx hb dd_M_skip_98 (by decide) ?_
            rw [hQ]
            exact kx_zret hx hb hr hlocks hK hN hS dd_M_skip_99 (by decide) (upd (upd (upd (upd si (4 * sd.toNatClampNeg) w) ((4 * sd.toNatClampNeg) + 1) st2) ((4 * sd.toNatClampNeg) + 2) or2) ((4 * sd.toNatClampNeg) + 3) sh2) hP hD (by refine ⟨kb_t ⟨c11, c18, c28, c38, c49⟩, by rw [if_pos ⟨c11, c18, c28, c38, c49⟩]⟩)
          · skip
            have c49 : ¬ (¬ sh2 < (nI 0) ∧ ¬ (nI 1073741823) < sh2) := kb_0.mp c49
            refine lv_iconst (v := nI 0) hx hb dd_M_skip_52 (by decide) ?_
            rw [hQ]
            exact kx_zret hx hb hr hlocks hK hN hS dd_M_skip_53 (by decide) si hP hD (by have hno : ¬ pm_sp sd w st2 or2 sh2 := (by first | exact fun q => c11 q.1 | exact fun q => c18 q.2.1 | exact fun q => c28 q.2.2.1 | exact fun q => c38 q.2.2.2.1 | exact fun q => c49 q.2.2.2.2); exact ⟨kb_f hno, by rw [if_neg hno]⟩)

theorem dd_M_add_0 : decode bb_M_add 0 = .ok (.aload_n 0, 1) := by decide +kernel
theorem dd_M_add_1 : decode bb_M_add 1 = .ok (.iconst 0, 1) := by decide +kernel
theorem dd_M_add_2 : decode bb_M_add 2 = .ok (.putfield 71, 3) := by decide +kernel
theorem dd_M_add_5 : decode bb_M_add 5 = .ok (.iload_n 1, 1) := by decide +kernel
theorem dd_M_add_6 : decode bb_M_add 6 = .ok (.ifCond .eq (13), 3) := by decide +kernel
theorem dd_M_add_9 : decode bb_M_add 9 = .ok (.aload_n 0, 1) := by decide +kernel
theorem dd_M_add_10 : decode bb_M_add 10 = .ok (.getfield 85, 3) := by decide +kernel
theorem dd_M_add_13 : decode bb_M_add 13 = .ok (.sipush (4096), 3) := by decide +kernel
theorem dd_M_add_16 : decode bb_M_add 16 = .ok (.if_icmp .ne (5), 3) := by decide +kernel
theorem dd_M_add_19 : decode bb_M_add 19 = .ok (.iconst (-1), 1) := by decide +kernel
theorem dd_M_add_20 : decode bb_M_add 20 = .ok (.ireturn, 1) := by decide +kernel
theorem dd_M_add_21 : decode bb_M_add 21 = .ok (.aload_n 0, 1) := by decide +kernel
theorem dd_M_add_22 : decode bb_M_add 22 = .ok (.getfield 7, 3) := by decide +kernel
theorem dd_M_add_25 : decode bb_M_add 25 = .ok (.aload_n 0, 1) := by decide +kernel
theorem dd_M_add_26 : decode bb_M_add 26 = .ok (.getfield 85, 3) := by decide +kernel
theorem dd_M_add_29 : decode bb_M_add 29 = .ok (.iload_n 2, 1) := by decide +kernel
theorem dd_M_add_30 : decode bb_M_add 30 = .ok (.iastore, 1) := by decide +kernel
theorem dd_M_add_31 : decode bb_M_add 31 = .ok (.aload_n 0, 1) := by decide +kernel
theorem dd_M_add_32 : decode bb_M_add 32 = .ok (.getfield 13, 3) := by decide +kernel
theorem dd_M_add_35 : decode bb_M_add 35 = .ok (.aload_n 0, 1) := by decide +kernel
theorem dd_M_add_36 : decode bb_M_add 36 = .ok (.getfield 85, 3) := by decide +kernel
theorem dd_M_add_39 : decode bb_M_add 39 = .ok (.iload_n 3, 1) := by decide +kernel
theorem dd_M_add_40 : decode bb_M_add 40 = .ok (.iastore, 1) := by decide +kernel
theorem dd_M_add_41 : decode bb_M_add 41 = .ok (.aload_n 0, 1) := by decide +kernel
theorem dd_M_add_42 : decode bb_M_add 42 = .ok (.getfield 16, 3) := by decide +kernel
theorem dd_M_add_45 : decode bb_M_add 45 = .ok (.aload_n 0, 1) := by decide +kernel
theorem dd_M_add_46 : decode bb_M_add 46 = .ok (.getfield 85, 3) := by decide +kernel
theorem dd_M_add_49 : decode bb_M_add 49 = .ok (.iload 4, 2) := by decide +kernel
theorem dd_M_add_51 : decode bb_M_add 51 = .ok (.iastore, 1) := by decide +kernel
theorem dd_M_add_52 : decode bb_M_add 52 = .ok (.aload_n 0, 1) := by decide +kernel
theorem dd_M_add_53 : decode bb_M_add 53 = .ok (.getfield 19, 3) := by decide +kernel
theorem dd_M_add_56 : decode bb_M_add 56 = .ok (.aload_n 0, 1) := by decide +kernel
theorem dd_M_add_57 : decode bb_M_add 57 = .ok (.getfield 85, 3) := by decide +kernel
theorem dd_M_add_60 : decode bb_M_add 60 = .ok (.iload 5, 2) := by decide +kernel
theorem dd_M_add_62 : decode bb_M_add 62 = .ok (.iastore, 1) := by decide +kernel
theorem dd_M_add_63 : decode bb_M_add 63 = .ok (.aload_n 0, 1) := by decide +kernel
theorem dd_M_add_64 : decode bb_M_add 64 = .ok (.getfield 22, 3) := by decide +kernel
theorem dd_M_add_67 : decode bb_M_add 67 = .ok (.aload_n 0, 1) := by decide +kernel
theorem dd_M_add_68 : decode bb_M_add 68 = .ok (.getfield 85, 3) := by decide +kernel
theorem dd_M_add_71 : decode bb_M_add 71 = .ok (.iload 6, 2) := by decide +kernel
theorem dd_M_add_73 : decode bb_M_add 73 = .ok (.iastore, 1) := by decide +kernel
theorem dd_M_add_74 : decode bb_M_add 74 = .ok (.aload_n 0, 1) := by decide +kernel
theorem dd_M_add_75 : decode bb_M_add 75 = .ok (.dup, 1) := by decide +kernel
theorem dd_M_add_76 : decode bb_M_add 76 = .ok (.getfield 85, 3) := by decide +kernel
theorem dd_M_add_79 : decode bb_M_add 79 = .ok (.iconst 1, 1) := by decide +kernel
theorem dd_M_add_80 : decode bb_M_add 80 = .ok (.iadd, 1) := by decide +kernel
theorem dd_M_add_81 : decode bb_M_add 81 = .ok (.putfield 85, 3) := by decide +kernel
theorem dd_M_add_84 : decode bb_M_add 84 = .ok (.aload_n 0, 1) := by decide +kernel
theorem dd_M_add_85 : decode bb_M_add 85 = .ok (.getfield 85, 3) := by decide +kernel
theorem dd_M_add_88 : decode bb_M_add 88 = .ok (.iconst 1, 1) := by decide +kernel
theorem dd_M_add_89 : decode bb_M_add 89 = .ok (.isub, 1) := by decide +kernel
theorem dd_M_add_90 : decode bb_M_add 90 = .ok (.ireturn, 1) := by decide +kernel

set_option maxHeartbeats 4000000 in
set_option maxRecDepth 100000 in
theorem ct_M_add (l : Launch) (D : va_G) (cI cJ cZ : ClassId) (sz : Nat) (o : Nat) (th : Nat) (cn : Nat) (a0 : Nat) (a1 : Nat) (a2 : Nat) (a3 : Nat) (a4 : Nat) (a5 : Nat) (mn : Nat) (a6 : Nat) (a7 : Nat) (ps : Nat) (bk : Nat) (a8 : Nat) (a9 : Nat) (a10 : Nat) (a11 : Nat) (a12 : Nat) (a13 : Nat) (a14 : Nat) (a15 : Nat) (kf : Nat) (lb : Int32) (lc : Nat) (lo : Int64) (el : Nat) (ec : Nat) (eo : Int64) (eb : Int32) (ed : Int64) (mp : Nat) (ml : Nat) (md : Int64) (mo : Int64) (mb : Int32) (a16 : Nat) (a17 : Nat) (kd : Nat → Int32) (wd : Nat → Int32) (sr : Nat → Int32) (od : Nat → Int32) (sk : Nat → Int32) (gd : Int32) (k : Int32) (x1 : Int32) (x2 : Int32) (x3 : Int32) (x4 : Int32) (hcn : cn ≤ 4096) : kx_Mi l yy_M_add ww_M_add ({ frames := 0, cells := 0, slots := 0, locals := 0 }) D vwCl (kx_ty cI cJ cZ) [.ref o, .int gd, .int k, .int x1, .int x2, .int x3, .int x4] [(o, .inr (0, [.int (nI th), .int (nI cn), .ref a0, .ref a1, .ref a2, .ref a3, .ref a4, .ref a5, .int (nI mn), .ref a6, .ref a7, .int (nI ps), .int (nI bk), .ref a8, .ref a9, .ref a10, .ref a11, .ref a12, .ref a13, .ref a14, .ref a15, .int (nI kf), .int lb, .int (nI lc), .long lo, .int (nI el), .int (nI ec), .long eo, .int eb, .long ed, .int (nI mp), .int (nI ml), .long md, .long mo, .int mb, .ref a16, .ref a17])), (a0, .inl (cI, 4097, .inl kd)), (a1, .inl (cI, 4097, .inl wd)), (a2, .inl (cI, 4097, .inl sr)), (a3, .inl (cI, 4097, .inl od)), (a4, .inl (cI, 4097, .inl sk))] sz (fun (r : Int32) (u : Nat × (Nat → Int32) × (Nat → Int32) × (Nat → Int32) × (Nat → Int32) × (Nat → Int32)) => (if gd = 0 ∨ cn = 4096 then r = (-1) ∧ u.1 = cn ∧ u.2.1 = kd ∧ u.2.2.1 = wd ∧ u.2.2.2.1 = sr ∧ u.2.2.2.2.1 = od ∧ u.2.2.2.2.2 = sk else r = nI cn ∧ u.1 = cn + 1 ∧ u.2.1 = upd kd cn k ∧ u.2.2.1 = upd wd cn x1 ∧ u.2.2.2.1 = upd sr cn x2 ∧ u.2.2.2.2.1 = upd od cn x3 ∧ u.2.2.2.2.2 = upd sk cn x4)) (fun (u : Nat × (Nat → Int32) × (Nat → Int32) × (Nat → Int32) × (Nat → Int32) × (Nat → Int32)) => [(o, .inr (0, [.int (nI 0), .int (nI u.1), .ref a0, .ref a1, .ref a2, .ref a3, .ref a4, .ref a5, .int (nI mn), .ref a6, .ref a7, .int (nI ps), .int (nI bk), .ref a8, .ref a9, .ref a10, .ref a11, .ref a12, .ref a13, .ref a14, .ref a15, .int (nI kf), .int lb, .int (nI lc), .long lo, .int (nI el), .int (nI ec), .long eo, .int eb, .long ed, .int (nI mp), .int (nI ml), .long md, .long mo, .int mb, .ref a16, .ref a17])), (a0, .inl (cI, 4097, .inl u.2.1)), (a1, .inl (cI, 4097, .inl u.2.2.1)), (a2, .inl (cI, 4097, .inl u.2.2.2.1)), (a3, .inl (cI, 4097, .inl u.2.2.2.2.1)), (a4, .inl (cI, 4097, .inl u.2.2.2.2.2))]) 0 0 := by
  refine kx_starti (by decide) rfl (Nat.le_of_ble_eq_true rfl) ?_
  intro p e s m below meth c A ls hx hb hr hml hts hown hlocks hin hP hK hN hD hA hS hl
  have hl : lv_has ls 7 [(0, .ref o), (1, .int gd), (2, .int k), (3, .int x1), (4, .int x2), (5, .int x3), (6, .int x4)] := hl
  have hown : s.vm.findClass rr_M = some m.cls := hown
  have lk0 := hts _ (kx_m kw_798)
  have hin0 : ∀ w ∈ u_ws rr_M tt_M 37, w ∈ ww_M_add := fun w h => kx_m (kf_M w h)
  have lk2 := hts _ (kx_m kw_799)
  have lk3 := hts _ (kx_m kw_800)
  have lk4 := hts _ (kx_m kw_801)
  have lk5 := hts _ (kx_m kw_802)
  have lk6 := hts _ (kx_m kw_803)
  have lk7 := hts _ (kx_m kw_804)
  obtain ⟨H, hH⟩ : ∃ H, H = s.heap := ⟨_, rfl⟩
  obtain ⟨locs, hlocs⟩ : ∃ z : List Loc, z = [] := ⟨_, rfl⟩
  have hP : va_P D vwCl [(o, .inr (0, [.int (nI th), .int (nI cn), .ref a0, .ref a1, .ref a2, .ref a3, .ref a4, .ref a5, .int (nI mn), .ref a6, .ref a7, .int (nI ps), .int (nI bk), .ref a8, .ref a9, .ref a10, .ref a11, .ref a12, .ref a13, .ref a14, .ref a15, .int (nI kf), .int lb, .int (nI lc), .long lo, .int (nI el), .int (nI ec), .long eo, .int eb, .long ed, .int (nI mp), .int (nI ml), .long md, .long mo, .int mb, .ref a16, .ref a17])), (a0, .inl (cI, 4097, .inl kd)), (a1, .inl (cI, 4097, .inl wd)), (a2, .inl (cI, 4097, .inl sr)), (a3, .inl (cI, 4097, .inl od)), (a4, .inl (cI, 4097, .inl sk))] H := by rw [hH]; exact hP
  have hS : va_S A s.heap H locs := by rw [hH, hlocs]; exact hS
  refine kx_gen hH hlocs ?_
  clear hH hlocs
  refine kx_nameQ (fun Q hQ => ?_)
  refine lv_aload_n hx hb dd_M_add_0 rfl (lv_at hl 0 rfl) ?_
  refine lv_iconst (v := nI 0) hx hb dd_M_add_1 (by decide) ?_
  refine va_put (D := D) (ci := 0) (v := .int (nI 0)) (ty := .int) (C := rr_M) (T := tt_M) (N := 37) hx hb hts hin0 ft_M ft_M_ok nn_M hown hK hP hD hS 0 kg_6_0 rfl 0 (by decide) lk0 (fun _ h9 => h9) rfl (by decide +kernel) rfl rfl (Nat.le_of_ble_eq_true rfl) dd_M_add_2 (fun H locs hP hD hS => ?_)
  have hP : va_P D vwCl [(o, .inr (0, [.int (nI 0), .int (nI cn), .ref a0, .ref a1, .ref a2, .ref a3, .ref a4, .ref a5, .int (nI mn), .ref a6, .ref a7, .int (nI ps), .int (nI bk), .ref a8, .ref a9, .ref a10, .ref a11, .ref a12, .ref a13, .ref a14, .ref a15, .int (nI kf), .int lb, .int (nI lc), .long lo, .int (nI el), .int (nI ec), .long eo, .int eb, .long ed, .int (nI mp), .int (nI ml), .long md, .long mo, .int mb, .ref a16, .ref a17])), (a0, .inl (cI, 4097, .inl kd)), (a1, .inl (cI, 4097, .inl wd)), (a2, .inl (cI, 4097, .inl sr)), (a3, .inl (cI, 4097, .inl od)), (a4, .inl (cI, 4097, .inl sk))] H := kx_cP kz_6_0 hP
  have hD : va_D A [(o, .inr (0, [.int (nI 0), .int (nI cn), .ref a0, .ref a1, .ref a2, .ref a3, .ref a4, .ref a5, .int (nI mn), .ref a6, .ref a7, .int (nI ps), .int (nI bk), .ref a8, .ref a9, .ref a10, .ref a11, .ref a12, .ref a13, .ref a14, .ref a15, .int (nI kf), .int lb, .int (nI lc), .long lo, .int (nI el), .int (nI ec), .long eo, .int eb, .long ed, .int (nI mp), .int (nI ml), .long md, .long mo, .int mb, .ref a16, .ref a17])), (a0, .inl (cI, 4097, .inl kd)), (a1, .inl (cI, 4097, .inl wd)), (a2, .inl (cI, 4097, .inl sr)), (a3, .inl (cI, 4097, .inl od)), (a4, .inl (cI, 4097, .inl sk))] := kx_cD kz_6_0 hD
  refine lv_iload_n hx hb dd_M_add_5 rfl (lv_at hl 1 rfl) ?_
  refine lv_if_eq (tgt := 19) hx hb dd_M_add_6 (by decide) (fun c6 => ?_) (fun c6 => ?_)
  · skip
    refine lv_iconst (v := (-1)) hx hb dd_M_add_19 (by decide) ?_
    rw [hQ]
    exact kx_iret hx hb hr hlocks hK hN hS dd_M_add_20 (cn, kd, wd, sr, od, sk) hP hD (by rw [if_pos (by first | exact Or.inl c6 | exact Or.inr c16)]; exact ⟨rfl, rfl, rfl, rfl, rfl, rfl, rfl⟩)
  · skip
    refine lv_aload_n hx hb dd_M_add_9 rfl (lv_at hl 0 rfl) ?_
    refine va_get (D := D) (ci := 0) (v := .int (nI cn)) (C := rr_M) (T := tt_M) (N := 37) hx hb hts hin0 hown hK hP 0 kg_6_0 rfl 1 (by decide) lk2 (fun _ h9 => h9) rfl dd_M_add_10 ?_
    refine lv_sipush (v := nI 4096) hx hb dd_M_add_13 (by decide) ?_
    refine lv_icmp_ne (tgt := 21) hx hb dd_M_add_16 (by decide) (fun c16 => ?_) (fun c16 => ?_)
    · skip
      have c16 : ¬ (cn = 4096) := fun h => c16 ((nI_eq (by omega) (by omega)).mpr h)
      refine lv_aload_n hx hb dd_M_add_21 rfl (lv_at hl 0 rfl) ?_
      refine va_get (D := D) (ci := 0) (v := .ref a0) (C := rr_M) (T := tt_M) (N := 37) hx hb hts hin0 hown hK hP 0 kg_6_0 rfl 2 (by decide) lk3 (fun _ h9 => h9) rfl dd_M_add_22 ?_
      refine lv_aload_n hx hb dd_M_add_25 rfl (lv_at hl 0 rfl) ?_
      refine va_get (D := D) (ci := 0) (v := .int (nI cn)) (C := rr_M) (T := tt_M) (N := 37) hx hb hts hin0 hown hK hP 0 kg_6_0 rfl 1 (by decide) lk2 (fun _ h9 => h9) rfl dd_M_add_26 ?_
      refine lv_iload_n hx hb dd_M_add_29 rfl (lv_at hl 2 rfl) ?_
      refine kx_iast (q0 := 1) (t0 := 0) hx hb dd_M_add_30 hK hP hD hS kg_6_1 rfl (by omega) (by omega) (fun H locs hP hD hS => ?_)
      have hP : va_P D vwCl [(o, .inr (0, [.int (nI 0), .int (nI cn), .ref a0, .ref a1, .ref a2, .ref a3, .ref a4, .ref a5, .int (nI mn), .ref a6, .ref a7, .int (nI ps), .int (nI bk), .ref a8, .ref a9, .ref a10, .ref a11, .ref a12, .ref a13, .ref a14, .ref a15, .int (nI kf), .int lb, .int (nI lc), .long lo, .int (nI el), .int (nI ec), .long eo, .int eb, .long ed, .int (nI mp), .int (nI ml), .long md, .long mo, .int mb, .ref a16, .ref a17])), (a0, .inl (cI, 4097, .inl (upd kd cn k))), (a1, .inl (cI, 4097, .inl wd)), (a2, .inl (cI, 4097, .inl sr)), (a3, .inl (cI, 4097, .inl od)), (a4, .inl (cI, 4097, .inl sk))] H := kx_cP kz_6_1 hP
      have hD : va_D A [(o, .inr (0, [.int (nI 0), .int (nI cn), .ref a0, .ref a1, .ref a2, .ref a3, .ref a4, .ref a5, .int (nI mn), .ref a6, .ref a7, .int (nI ps), .int (nI bk), .ref a8, .ref a9, .ref a10, .ref a11, .ref a12, .ref a13, .ref a14, .ref a15, .int (nI kf), .int lb, .int (nI lc), .long lo, .int (nI el), .int (nI ec), .long eo, .int eb, .long ed, .int (nI mp), .int (nI ml), .long md, .long mo, .int mb, .ref a16, .ref a17])), (a0, .inl (cI, 4097, .inl (upd kd cn k))), (a1, .inl (cI, 4097, .inl wd)), (a2, .inl (cI, 4097, .inl sr)), (a3, .inl (cI, 4097, .inl od)), (a4, .inl (cI, 4097, .inl sk))] := kx_cD kz_6_1 hD
      refine lv_aload_n hx hb dd_M_add_31 rfl (lv_at hl 0 rfl) ?_
      refine va_get (D := D) (ci := 0) (v := .ref a1) (C := rr_M) (T := tt_M) (N := 37) hx hb hts hin0 hown hK hP 0 kg_6_0 rfl 3 (by decide) lk4 (fun _ h9 => h9) rfl dd_M_add_32 ?_
      refine lv_aload_n hx hb dd_M_add_35 rfl (lv_at hl 0 rfl) ?_
      refine va_get (D := D) (ci := 0) (v := .int (nI cn)) (C := rr_M) (T := tt_M) (N := 37) hx hb hts hin0 hown hK hP 0 kg_6_0 rfl 1 (by decide) lk2 (fun _ h9 => h9) rfl dd_M_add_36 ?_
      refine lv_iload_n hx hb dd_M_add_39 rfl (lv_at hl 3 rfl) ?_
      refine kx_iast (q0 := 2) (t0 := 0) hx hb dd_M_add_40 hK hP hD hS kg_6_2 rfl (by omega) (by omega) (fun H locs hP hD hS => ?_)
      have hP : va_P D vwCl [(o, .inr (0, [.int (nI 0), .int (nI cn), .ref a0, .ref a1, .ref a2, .ref a3, .ref a4, .ref a5, .int (nI mn), .ref a6, .ref a7, .int (nI ps), .int (nI bk), .ref a8, .ref a9, .ref a10, .ref a11, .ref a12, .ref a13, .ref a14, .ref a15, .int (nI kf), .int lb, .int (nI lc), .long lo, .int (nI el), .int (nI ec), .long eo, .int eb, .long ed, .int (nI mp), .int (nI ml), .long md, .long mo, .int mb, .ref a16, .ref a17])), (a0, .inl (cI, 4097, .inl (upd kd cn k))), (a1, .inl (cI, 4097, .inl (upd wd cn x1))), (a2, .inl (cI, 4097, .inl sr)), (a3, .inl (cI, 4097, .inl od)), (a4, .inl (cI, 4097, .inl sk))] H := kx_cP kz_6_2 hP
      have hD : va_D A [(o, .inr (0, [.int (nI 0), .int (nI cn), .ref a0, .ref a1, .ref a2, .ref a3, .ref a4, .ref a5, .int (nI mn), .ref a6, .ref a7, .int (nI ps), .int (nI bk), .ref a8, .ref a9, .ref a10, .ref a11, .ref a12, .ref a13, .ref a14, .ref a15, .int (nI kf), .int lb, .int (nI lc), .long lo, .int (nI el), .int (nI ec), .long eo, .int eb, .long ed, .int (nI mp), .int (nI ml), .long md, .long mo, .int mb, .ref a16, .ref a17])), (a0, .inl (cI, 4097, .inl (upd kd cn k))), (a1, .inl (cI, 4097, .inl (upd wd cn x1))), (a2, .inl (cI, 4097, .inl sr)), (a3, .inl (cI, 4097, .inl od)), (a4, .inl (cI, 4097, .inl sk))] := kx_cD kz_6_2 hD
      refine lv_aload_n hx hb dd_M_add_41 rfl (lv_at hl 0 rfl) ?_
      refine va_get (D := D) (ci := 0) (v := .ref a2) (C := rr_M) (T := tt_M) (N := 37) hx hb hts hin0 hown hK hP 0 kg_6_0 rfl 4 (by decide) lk5 (fun _ h9 => h9) rfl dd_M_add_42 ?_
      refine lv_aload_n hx hb dd_M_add_45 rfl (lv_at hl 0 rfl) ?_
      refine va_get (D := D) (ci := 0) (v := .int (nI cn)) (C := rr_M) (T := tt_M) (N := 37) hx hb hts hin0 hown hK hP 0 kg_6_0 rfl 1 (by decide) lk2 (fun _ h9 => h9) rfl dd_M_add_46 ?_
      refine lv_iload hx hb dd_M_add_49 (lv_at hl 4 rfl) ?_
      refine kx_iast (q0 := 3) (t0 := 0) hx hb dd_M_add_51 hK hP hD hS kg_6_3 rfl (by omega) (by omega) (fun H locs hP hD hS => ?_)
      have hP : va_P D vwCl [(o, .inr (0, [.int (nI 0), .int (nI cn), .ref a0, .ref a1, .ref a2, .ref a3, .ref a4, .ref a5, .int (nI mn), .ref a6, .ref a7, .int (nI ps), .int (nI bk), .ref a8, .ref a9, .ref a10, .ref a11, .ref a12, .ref a13, .ref a14, .ref a15, .int (nI kf), .int lb, .int (nI lc), .long lo, .int (nI el), .int (nI ec), .long eo, .int eb, .long ed, .int (nI mp), .int (nI ml), .long md, .long mo, .int mb, .ref a16, .ref a17])), (a0, .inl (cI, 4097, .inl (upd kd cn k))), (a1, .inl (cI, 4097, .inl (upd wd cn x1))), (a2, .inl (cI, 4097, .inl (upd sr cn x2))), (a3, .inl (cI, 4097, .inl od)), (a4, .inl (cI, 4097, .inl sk))] H := kx_cP kz_6_3 hP
      have hD : va_D A [(o, .inr (0, [.int (nI 0), .int (nI cn), .ref a0, .ref a1, .ref a2, .ref a3, .ref a4, .ref a5, .int (nI mn), .ref a6, .ref a7, .int (nI ps), .int (nI bk), .ref a8, .ref a9, .ref a10, .ref a11, .ref a12, .ref a13, .ref a14, .ref a15, .int (nI kf), .int lb, .int (nI lc), .long lo, .int (nI el), .int (nI ec), .long eo, .int eb, .long ed, .int (nI mp), .int (nI ml), .long md, .long mo, .int mb, .ref a16, .ref a17])), (a0, .inl (cI, 4097, .inl (upd kd cn k))), (a1, .inl (cI, 4097, .inl (upd wd cn x1))), (a2, .inl (cI, 4097, .inl (upd sr cn x2))), (a3, .inl (cI, 4097, .inl od)), (a4, .inl (cI, 4097, .inl sk))] := kx_cD kz_6_3 hD
      refine lv_aload_n hx hb dd_M_add_52 rfl (lv_at hl 0 rfl) ?_
      refine va_get (D := D) (ci := 0) (v := .ref a3) (C := rr_M) (T := tt_M) (N := 37) hx hb hts hin0 hown hK hP 0 kg_6_0 rfl 5 (by decide) lk6 (fun _ h9 => h9) rfl dd_M_add_53 ?_
      refine lv_aload_n hx hb dd_M_add_56 rfl (lv_at hl 0 rfl) ?_
      refine va_get (D := D) (ci := 0) (v := .int (nI cn)) (C := rr_M) (T := tt_M) (N := 37) hx hb hts hin0 hown hK hP 0 kg_6_0 rfl 1 (by decide) lk2 (fun _ h9 => h9) rfl dd_M_add_57 ?_
      refine lv_iload hx hb dd_M_add_60 (lv_at hl 5 rfl) ?_
      refine kx_iast (q0 := 4) (t0 := 0) hx hb dd_M_add_62 hK hP hD hS kg_6_4 rfl (by omega) (by omega) (fun H locs hP hD hS => ?_)
      have hP : va_P D vwCl [(o, .inr (0, [.int (nI 0), .int (nI cn), .ref a0, .ref a1, .ref a2, .ref a3, .ref a4, .ref a5, .int (nI mn), .ref a6, .ref a7, .int (nI ps), .int (nI bk), .ref a8, .ref a9, .ref a10, .ref a11, .ref a12, .ref a13, .ref a14, .ref a15, .int (nI kf), .int lb, .int (nI lc), .long lo, .int (nI el), .int (nI ec), .long eo, .int eb, .long ed, .int (nI mp), .int (nI ml), .long md, .long mo, .int mb, .ref a16, .ref a17])), (a0, .inl (cI, 4097, .inl (upd kd cn k))), (a1, .inl (cI, 4097, .inl (upd wd cn x1))), (a2, .inl (cI, 4097, .inl (upd sr cn x2))), (a3, .inl (cI, 4097, .inl (upd od cn x3))), (a4, .inl (cI, 4097, .inl sk))] H := kx_cP kz_6_4 hP
      have hD : va_D A [(o, .inr (0, [.int (nI 0), .int (nI cn), .ref a0, .ref a1, .ref a2, .ref a3, .ref a4, .ref a5, .int (nI mn), .ref a6, .ref a7, .int (nI ps), .int (nI bk), .ref a8, .ref a9, .ref a10, .ref a11, .ref a12, .ref a13, .ref a14, .ref a15, .int (nI kf), .int lb, .int (nI lc), .long lo, .int (nI el), .int (nI ec), .long eo, .int eb, .long ed, .int (nI mp), .int (nI ml), .long md, .long mo, .int mb, .ref a16, .ref a17])), (a0, .inl (cI, 4097, .inl (upd kd cn k))), (a1, .inl (cI, 4097, .inl (upd wd cn x1))), (a2, .inl (cI, 4097, .inl (upd sr cn x2))), (a3, .inl (cI, 4097, .inl (upd od cn x3))), (a4, .inl (cI, 4097, .inl sk))] := kx_cD kz_6_4 hD
      refine lv_aload_n hx hb dd_M_add_63 rfl (lv_at hl 0 rfl) ?_
      refine va_get (D := D) (ci := 0) (v := .ref a4) (C := rr_M) (T := tt_M) (N := 37) hx hb hts hin0 hown hK hP 0 kg_6_0 rfl 6 (by decide) lk7 (fun _ h9 => h9) rfl dd_M_add_64 ?_
      refine lv_aload_n hx hb dd_M_add_67 rfl (lv_at hl 0 rfl) ?_
      refine va_get (D := D) (ci := 0) (v := .int (nI cn)) (C := rr_M) (T := tt_M) (N := 37) hx hb hts hin0 hown hK hP 0 kg_6_0 rfl 1 (by decide) lk2 (fun _ h9 => h9) rfl dd_M_add_68 ?_
      refine lv_iload hx hb dd_M_add_71 (lv_at hl 6 rfl) ?_
      refine kx_iast (q0 := 5) (t0 := 0) hx hb dd_M_add_73 hK hP hD hS kg_6_5 rfl (by omega) (by omega) (fun H locs hP hD hS => ?_)
      have hP : va_P D vwCl [(o, .inr (0, [.int (nI 0), .int (nI cn), .ref a0, .ref a1, .ref a2, .ref a3, .ref a4, .ref a5, .int (nI mn), .ref a6, .ref a7, .int (nI ps), .int (nI bk), .ref a8, .ref a9, .ref a10, .ref a11, .ref a12, .ref a13, .ref a14, .ref a15, .int (nI kf), .int lb, .int (nI lc), .long lo, .int (nI el), .int (nI ec), .long eo, .int eb, .long ed, .int (nI mp), .int (nI ml), .long md, .long mo, .int mb, .ref a16, .ref a17])), (a0, .inl (cI, 4097, .inl (upd kd cn k))), (a1, .inl (cI, 4097, .inl (upd wd cn x1))), (a2, .inl (cI, 4097, .inl (upd sr cn x2))), (a3, .inl (cI, 4097, .inl (upd od cn x3))), (a4, .inl (cI, 4097, .inl (upd sk cn x4)))] H := kx_cP kz_6_5 hP
      have hD : va_D A [(o, .inr (0, [.int (nI 0), .int (nI cn), .ref a0, .ref a1, .ref a2, .ref a3, .ref a4, .ref a5, .int (nI mn), .ref a6, .ref a7, .int (nI ps), .int (nI bk), .ref a8, .ref a9, .ref a10, .ref a11, .ref a12, .ref a13, .ref a14, .ref a15, .int (nI kf), .int lb, .int (nI lc), .long lo, .int (nI el), .int (nI ec), .long eo, .int eb, .long ed, .int (nI mp), .int (nI ml), .long md, .long mo, .int mb, .ref a16, .ref a17])), (a0, .inl (cI, 4097, .inl (upd kd cn k))), (a1, .inl (cI, 4097, .inl (upd wd cn x1))), (a2, .inl (cI, 4097, .inl (upd sr cn x2))), (a3, .inl (cI, 4097, .inl (upd od cn x3))), (a4, .inl (cI, 4097, .inl (upd sk cn x4)))] := kx_cD kz_6_5 hD
      refine lv_aload_n hx hb dd_M_add_74 rfl (lv_at hl 0 rfl) ?_
      refine lv_dup hx hb dd_M_add_75 rfl ?_
      refine va_get (D := D) (ci := 0) (v := .int (nI cn)) (C := rr_M) (T := tt_M) (N := 37) hx hb hts hin0 hown hK hP 0 kg_6_0 rfl 1 (by decide) lk2 (fun _ h9 => h9) rfl dd_M_add_76 ?_
      refine lv_iconst (v := nI 1) hx hb dd_M_add_79 (by decide) ?_
      refine kx_iadd hx hb dd_M_add_80 ?_
      refine va_put (D := D) (ci := 0) (v := .int (nI (cn + 1))) (ty := .int) (C := rr_M) (T := tt_M) (N := 37) hx hb hts hin0 ft_M ft_M_ok nn_M hown hK hP hD hS 0 kg_6_0 rfl 1 (by decide) lk2 (fun _ h9 => h9) rfl (by decide +kernel) rfl rfl (Nat.le_of_ble_eq_true rfl) dd_M_add_81 (fun H locs hP hD hS => ?_)
      have hP : va_P D vwCl [(o, .inr (0, [.int (nI 0), .int (nI (cn + 1)), .ref a0, .ref a1, .ref a2, .ref a3, .ref a4, .ref a5, .int (nI mn), .ref a6, .ref a7, .int (nI ps), .int (nI bk), .ref a8, .ref a9, .ref a10, .ref a11, .ref a12, .ref a13, .ref a14, .ref a15, .int (nI kf), .int lb, .int (nI lc), .long lo, .int (nI el), .int (nI ec), .long eo, .int eb, .long ed, .int (nI mp), .int (nI ml), .long md, .long mo, .int mb, .ref a16, .ref a17])), (a0, .inl (cI, 4097, .inl (upd kd cn k))), (a1, .inl (cI, 4097, .inl (upd wd cn x1))), (a2, .inl (cI, 4097, .inl (upd sr cn x2))), (a3, .inl (cI, 4097, .inl (upd od cn x3))), (a4, .inl (cI, 4097, .inl (upd sk cn x4)))] H := kx_cP kz_6_0 hP
      have hD : va_D A [(o, .inr (0, [.int (nI 0), .int (nI (cn + 1)), .ref a0, .ref a1, .ref a2, .ref a3, .ref a4, .ref a5, .int (nI mn), .ref a6, .ref a7, .int (nI ps), .int (nI bk), .ref a8, .ref a9, .ref a10, .ref a11, .ref a12, .ref a13, .ref a14, .ref a15, .int (nI kf), .int lb, .int (nI lc), .long lo, .int (nI el), .int (nI ec), .long eo, .int eb, .long ed, .int (nI mp), .int (nI ml), .long md, .long mo, .int mb, .ref a16, .ref a17])), (a0, .inl (cI, 4097, .inl (upd kd cn k))), (a1, .inl (cI, 4097, .inl (upd wd cn x1))), (a2, .inl (cI, 4097, .inl (upd sr cn x2))), (a3, .inl (cI, 4097, .inl (upd od cn x3))), (a4, .inl (cI, 4097, .inl (upd sk cn x4)))] := kx_cD kz_6_0 hD
      refine lv_aload_n hx hb dd_M_add_84 rfl (lv_at hl 0 rfl) ?_
      refine va_get (D := D) (ci := 0) (v := .int (nI (cn + 1))) (C := rr_M) (T := tt_M) (N := 37) hx hb hts hin0 hown hK hP 0 kg_6_0 rfl 1 (by decide) lk2 (fun _ h9 => h9) rfl dd_M_add_85 ?_
      refine lv_iconst (v := nI 1) hx hb dd_M_add_88 (by decide) ?_
      refine kx_isub hx hb dd_M_add_89 (by omega) ?_
      rw [hQ]
      exact kx_iret hx hb hr hlocks hK hN hS dd_M_add_90 (cn + 1, upd kd cn k, upd wd cn x1, upd sr cn x2, upd od cn x3, upd sk cn x4) hP hD (by rw [if_neg (fun q => q.elim c6 c16)]; exact ⟨rfl, rfl, rfl, rfl, rfl, rfl, rfl⟩)
    · skip
      have c16 : cn = 4096 := (nI_eq (by omega) (by omega)).mp c16
      refine lv_iconst (v := (-1)) hx hb dd_M_add_19 (by decide) ?_
      rw [hQ]
      exact kx_iret hx hb hr hlocks hK hN hS dd_M_add_20 (cn, kd, wd, sr, od, sk) hP hD (by rw [if_pos (by first | exact Or.inl c6 | exact Or.inr c16)]; exact ⟨rfl, rfl, rfl, rfl, rfl, rfl, rfl⟩)

theorem dd_M_box_0 : decode bb_M_box 0 = .ok (.aload_n 0, 1) := by decide +kernel
theorem dd_M_box_1 : decode bb_M_box 1 = .ok (.iload_n 1, 1) := by decide +kernel
theorem dd_M_box_2 : decode bb_M_box 2 = .ok (.invokestatic 81, 3) := by decide +kernel
theorem dd_M_box_5 : decode bb_M_box 5 = .ok (.iconst 0, 1) := by decide +kernel
theorem dd_M_box_6 : decode bb_M_box 6 = .ok (.iload_n 1, 1) := by decide +kernel
theorem dd_M_box_7 : decode bb_M_box 7 = .ok (.iconst 0, 1) := by decide +kernel
theorem dd_M_box_8 : decode bb_M_box 8 = .ok (.iconst 0, 1) := by decide +kernel
theorem dd_M_box_9 : decode bb_M_box 9 = .ok (.iconst 0, 1) := by decide +kernel
theorem dd_M_box_10 : decode bb_M_box 10 = .ok (.invokevirtual 88, 3) := by decide +kernel
theorem dd_M_box_13 : decode bb_M_box 13 = .ok (.ireturn, 1) := by decide +kernel

set_option maxHeartbeats 4000000 in
set_option maxRecDepth 100000 in
theorem ct_M_box (l : Launch) (D : va_G) (cI cJ cZ : ClassId) (sz : Nat) (o : Nat) (th : Nat) (cn : Nat) (a0 : Nat) (a1 : Nat) (a2 : Nat) (a3 : Nat) (a4 : Nat) (a5 : Nat) (mn : Nat) (a6 : Nat) (a7 : Nat) (ps : Nat) (bk : Nat) (a8 : Nat) (a9 : Nat) (a10 : Nat) (a11 : Nat) (a12 : Nat) (a13 : Nat) (a14 : Nat) (a15 : Nat) (kf : Nat) (lb : Int32) (lc : Nat) (lo : Int64) (el : Nat) (ec : Nat) (eo : Int64) (eb : Int32) (ed : Int64) (mp : Nat) (ml : Nat) (md : Int64) (mo : Int64) (mb : Int32) (a16 : Nat) (a17 : Nat) (kd : Nat → Int32) (wd : Nat → Int32) (sr : Nat → Int32) (od : Nat → Int32) (sk : Nat → Int32) (w : Int32) (hcn : cn ≤ 4096) : kx_Mi l yy_M_box ww_M_box ({ frames := 2, cells := 0, slots := 0, locals := 42 }) D vwCl (kx_ty cI cJ cZ) [.ref o, .int w] [(o, .inr (0, [.int (nI th), .int (nI cn), .ref a0, .ref a1, .ref a2, .ref a3, .ref a4, .ref a5, .int (nI mn), .ref a6, .ref a7, .int (nI ps), .int (nI bk), .ref a8, .ref a9, .ref a10, .ref a11, .ref a12, .ref a13, .ref a14, .ref a15, .int (nI kf), .int lb, .int (nI lc), .long lo, .int (nI el), .int (nI ec), .long eo, .int eb, .long ed, .int (nI mp), .int (nI ml), .long md, .long mo, .int mb, .ref a16, .ref a17])), (a0, .inl (cI, 4097, .inl kd)), (a1, .inl (cI, 4097, .inl wd)), (a2, .inl (cI, 4097, .inl sr)), (a3, .inl (cI, 4097, .inl od)), (a4, .inl (cI, 4097, .inl sk))] sz (fun (r : Int32) (u : Nat × (Nat → Int32) × (Nat → Int32) × (Nat → Int32) × (Nat → Int32) × (Nat → Int32)) => (if ¬ (pm_wi w) ∨ cn = 4096 then r = (-1) ∧ u.1 = cn ∧ u.2.1 = kd ∧ u.2.2.1 = wd ∧ u.2.2.2.1 = sr ∧ u.2.2.2.2.1 = od ∧ u.2.2.2.2.2 = sk else r = nI cn ∧ u.1 = cn + 1 ∧ u.2.1 = upd kd cn (nI 0) ∧ u.2.2.1 = upd wd cn w ∧ u.2.2.2.1 = upd sr cn (nI 0) ∧ u.2.2.2.2.1 = upd od cn (nI 0) ∧ u.2.2.2.2.2 = upd sk cn (nI 0))) (fun (u : Nat × (Nat → Int32) × (Nat → Int32) × (Nat → Int32) × (Nat → Int32) × (Nat → Int32)) => [(o, .inr (0, [.int (nI 0), .int (nI u.1), .ref a0, .ref a1, .ref a2, .ref a3, .ref a4, .ref a5, .int (nI mn), .ref a6, .ref a7, .int (nI ps), .int (nI bk), .ref a8, .ref a9, .ref a10, .ref a11, .ref a12, .ref a13, .ref a14, .ref a15, .int (nI kf), .int lb, .int (nI lc), .long lo, .int (nI el), .int (nI ec), .long eo, .int eb, .long ed, .int (nI mp), .int (nI ml), .long md, .long mo, .int mb, .ref a16, .ref a17])), (a0, .inl (cI, 4097, .inl u.2.1)), (a1, .inl (cI, 4097, .inl u.2.2.1)), (a2, .inl (cI, 4097, .inl u.2.2.2.1)), (a3, .inl (cI, 4097, .inl u.2.2.2.2.1)), (a4, .inl (cI, 4097, .inl u.2.2.2.2.2))]) 0 0 := by
  refine kx_starti (by decide) rfl (Nat.le_of_ble_eq_true rfl) ?_
  intro p e s m below meth c A ls hx hb hr hml hts hown hlocks hin hP hK hN hD hA hS hl
  have hl : lv_has ls 2 [(0, .ref o), (1, .int w)] := hl
  have hown : s.vm.findClass rr_M = some m.cls := hown
  obtain ⟨H, hH⟩ : ∃ H, H = s.heap := ⟨_, rfl⟩
  obtain ⟨locs, hlocs⟩ : ∃ z : List Loc, z = [] := ⟨_, rfl⟩
  have hP : va_P D vwCl [(o, .inr (0, [.int (nI th), .int (nI cn), .ref a0, .ref a1, .ref a2, .ref a3, .ref a4, .ref a5, .int (nI mn), .ref a6, .ref a7, .int (nI ps), .int (nI bk), .ref a8, .ref a9, .ref a10, .ref a11, .ref a12, .ref a13, .ref a14, .ref a15, .int (nI kf), .int lb, .int (nI lc), .long lo, .int (nI el), .int (nI ec), .long eo, .int eb, .long ed, .int (nI mp), .int (nI ml), .long md, .long mo, .int mb, .ref a16, .ref a17])), (a0, .inl (cI, 4097, .inl kd)), (a1, .inl (cI, 4097, .inl wd)), (a2, .inl (cI, 4097, .inl sr)), (a3, .inl (cI, 4097, .inl od)), (a4, .inl (cI, 4097, .inl sk))] H := by rw [hH]; exact hP
  have hS : va_S A s.heap H locs := by rw [hH, hlocs]; exact hS
  refine kx_gen hH hlocs ?_
  clear hH hlocs
  refine kx_nameQ (fun Q hQ => ?_)
  refine lv_aload_n hx hb dd_M_box_0 rfl (lv_at hl 0 rfl) ?_
  refine lv_iload_n hx hb dd_M_box_1 rfl (lv_at hl 1 rfl) ?_
  refine kx_calli (wr := [(o, .inr (0, [.int (nI th), .int (nI cn), .ref a0, .ref a1, .ref a2, .ref a3, .ref a4, .ref a5, .int (nI mn), .ref a6, .ref a7, .int (nI ps), .int (nI bk), .ref a8, .ref a9, .ref a10, .ref a11, .ref a12, .ref a13, .ref a14, .ref a15, .int (nI kf), .int lb, .int (nI lc), .long lo, .int (nI el), .int (nI ec), .long eo, .int eb, .long ed, .int (nI mp), .int (nI ml), .long md, .long mo, .int mb, .ref a16, .ref a17])), (a0, .inl (cI, 4097, .inl kd)), (a1, .inl (cI, 4097, .inl wd)), (a2, .inl (cI, 4097, .inl sr)), (a3, .inl (cI, 4097, .inl od)), (a4, .inl (cI, 4097, .inl sk))]) (va_runS (As := [.int w]) (rest := [.ref o]) ⟨hx, hb, hml, hown, hts⟩ (ct_M_isWidth l D cI cJ cZ H.size w) ⟨(callB_of 1 hts (kx_good kw_928) rfl rfl rfl (hts _ (kx_m kw_53)) (hts _ (kx_m kw_926)) (by decide +kernel) ⟨Nat.le_of_ble_eq_true rfl, Nat.le_of_ble_eq_true rfl⟩), (hts _ (kx_m kw_927))⟩ (kx_preS hK hN (hP.sub [] kt_6_) (hD.sub [] (by decide) ks_6_)) rfl rfl hl.1 rfl (lv_room (Nat.le_of_ble_eq_true rfl)) dd_M_box_2 ⟨Nat.le_of_ble_eq_true rfl, Nat.le_of_ble_eq_true rfl⟩) hP hD hS hA [] [0, 1, 2, 3, 4, 5] ks_6_ ks_6_0_1_2_3_4_5 (by decide) (by decide) (fun r2 u2 H locs hw2 hP hD hS => ?_)
  have hP : va_P D vwCl [(o, .inr (0, [.int (nI th), .int (nI cn), .ref a0, .ref a1, .ref a2, .ref a3, .ref a4, .ref a5, .int (nI mn), .ref a6, .ref a7, .int (nI ps), .int (nI bk), .ref a8, .ref a9, .ref a10, .ref a11, .ref a12, .ref a13, .ref a14, .ref a15, .int (nI kf), .int lb, .int (nI lc), .long lo, .int (nI el), .int (nI ec), .long eo, .int eb, .long ed, .int (nI mp), .int (nI ml), .long md, .long mo, .int mb, .ref a16, .ref a17])), (a0, .inl (cI, 4097, .inl kd)), (a1, .inl (cI, 4097, .inl wd)), (a2, .inl (cI, 4097, .inl sr)), (a3, .inl (cI, 4097, .inl od)), (a4, .inl (cI, 4097, .inl sk))] H := hP
  have hD : va_D A [(o, .inr (0, [.int (nI th), .int (nI cn), .ref a0, .ref a1, .ref a2, .ref a3, .ref a4, .ref a5, .int (nI mn), .ref a6, .ref a7, .int (nI ps), .int (nI bk), .ref a8, .ref a9, .ref a10, .ref a11, .ref a12, .ref a13, .ref a14, .ref a15, .int (nI kf), .int lb, .int (nI lc), .long lo, .int (nI el), .int (nI ec), .long eo, .int eb, .long ed, .int (nI mp), .int (nI ml), .long md, .long mo, .int mb, .ref a16, .ref a17])), (a0, .inl (cI, 4097, .inl kd)), (a1, .inl (cI, 4097, .inl wd)), (a2, .inl (cI, 4097, .inl sr)), (a3, .inl (cI, 4097, .inl od)), (a4, .inl (cI, 4097, .inl sk))] := hD
  have hw2 : r2 = kb_p (¬ w < (-1073741823) ∧ ¬ nI 1073741823 < w) := hw2
  subst hw2
  refine lv_iconst (v := nI 0) hx hb dd_M_box_5 (by decide) ?_
  refine lv_iload_n hx hb dd_M_box_6 rfl (lv_at hl 1 rfl) ?_
  refine lv_iconst (v := nI 0) hx hb dd_M_box_7 (by decide) ?_
  refine lv_iconst (v := nI 0) hx hb dd_M_box_8 (by decide) ?_
  refine lv_iconst (v := nI 0) hx hb dd_M_box_9 (by decide) ?_
  refine kx_calli (wr := []) (va_runV (C := rr_M) (As := [.int (kb_p (¬ w < (-1073741823) ∧ ¬ nI 1073741823 < w)), .int (nI 0), .int w, .int (nI 0), .int (nI 0), .int (nI 0)]) (rest := []) ⟨hx, hb, hml, hown, hts⟩ (ct_M_add l D cI cJ cZ H.size o th cn a0 a1 a2 a3 a4 a5 mn a6 a7 ps bk a8 a9 a10 a11 a12 a13 a14 a15 kf lb lc lo el ec eo eb ed mp ml md mo mb a16 a17 kd wd sr od sk (kb_p (¬ w < (-1073741823) ∧ ¬ nI 1073741823 < w)) (nI 0) w (nI 0) (nI 0) (nI 0) (by omega)) ⟨(callB_of 6 hts (kx_good kw_942) rfl rfl rfl (hts _ (kx_m kw_53)) (hts _ (kx_m kw_939)) (by decide +kernel) ⟨Nat.le_of_ble_eq_true rfl, Nat.le_of_ble_eq_true rfl⟩), (hts _ (kx_m kw_941)), (hts _ (kx_m kw_23))⟩ (kx_preV (ci := 0) (q0 := 0) hK hN (hP.sub [0, 1, 2, 3, 4, 5] kt_6_0_1_2_3_4_5) (hD.sub [0, 1, 2, 3, 4, 5] (by decide) ks_6_0_1_2_3_4_5) rfl kg_6_0) rfl rfl hl.1 rfl (lv_room (Nat.le_of_ble_eq_true rfl)) dd_M_box_10 ⟨Nat.le_of_ble_eq_true rfl, Nat.le_of_ble_eq_true rfl⟩) hP hD hS hA [0, 1, 2, 3, 4, 5] [] ks_6_0_1_2_3_4_5 ks_6_ (by decide) (by decide) (fun r10 u10 H locs hw10 hP hD hS => ?_)
  obtain ⟨cn2_10, kd2_10, wd2_10, sr2_10, od2_10, sk2_10⟩ := u10
  have hP : va_P D vwCl [(o, .inr (0, [.int (nI 0), .int (nI cn2_10), .ref a0, .ref a1, .ref a2, .ref a3, .ref a4, .ref a5, .int (nI mn), .ref a6, .ref a7, .int (nI ps), .int (nI bk), .ref a8, .ref a9, .ref a10, .ref a11, .ref a12, .ref a13, .ref a14, .ref a15, .int (nI kf), .int lb, .int (nI lc), .long lo, .int (nI el), .int (nI ec), .long eo, .int eb, .long ed, .int (nI mp), .int (nI ml), .long md, .long mo, .int mb, .ref a16, .ref a17])), (a0, .inl (cI, 4097, .inl kd2_10)), (a1, .inl (cI, 4097, .inl wd2_10)), (a2, .inl (cI, 4097, .inl sr2_10)), (a3, .inl (cI, 4097, .inl od2_10)), (a4, .inl (cI, 4097, .inl sk2_10))] H := hP
  have hD : va_D A [(o, .inr (0, [.int (nI 0), .int (nI cn2_10), .ref a0, .ref a1, .ref a2, .ref a3, .ref a4, .ref a5, .int (nI mn), .ref a6, .ref a7, .int (nI ps), .int (nI bk), .ref a8, .ref a9, .ref a10, .ref a11, .ref a12, .ref a13, .ref a14, .ref a15, .int (nI kf), .int lb, .int (nI lc), .long lo, .int (nI el), .int (nI ec), .long eo, .int eb, .long ed, .int (nI mp), .int (nI ml), .long md, .long mo, .int mb, .ref a16, .ref a17])), (a0, .inl (cI, 4097, .inl kd2_10)), (a1, .inl (cI, 4097, .inl wd2_10)), (a2, .inl (cI, 4097, .inl sr2_10)), (a3, .inl (cI, 4097, .inl od2_10)), (a4, .inl (cI, 4097, .inl sk2_10))] := hD
  have hw10 : (if (kb_p (¬ w < (-1073741823) ∧ ¬ nI 1073741823 < w)) = 0 ∨ cn = 4096 then r10 = (-1) ∧ cn2_10 = cn ∧ kd2_10 = kd ∧ wd2_10 = wd ∧ sr2_10 = sr ∧ od2_10 = od ∧ sk2_10 = sk else r10 = nI cn ∧ cn2_10 = cn + 1 ∧ kd2_10 = upd kd cn (nI 0) ∧ wd2_10 = upd wd cn w ∧ sr2_10 = upd sr cn (nI 0) ∧ od2_10 = upd od cn (nI 0) ∧ sk2_10 = upd sk cn (nI 0)) := hw10
  rw [hQ]
  exact kx_iret hx hb hr hlocks hK hN hS dd_M_box_13 (cn2_10, kd2_10, wd2_10, sr2_10, od2_10, sk2_10) hP hD (by simpa only [kb_0] using hw10)

theorem dd_M_kern_0 : decode bb_M_kern 0 = .ok (.aload_n 0, 1) := by decide +kernel
theorem dd_M_kern_1 : decode bb_M_kern 1 = .ok (.iload_n 1, 1) := by decide +kernel
theorem dd_M_kern_2 : decode bb_M_kern 2 = .ok (.invokestatic 81, 3) := by decide +kernel
theorem dd_M_kern_5 : decode bb_M_kern 5 = .ok (.iconst 2, 1) := by decide +kernel
theorem dd_M_kern_6 : decode bb_M_kern 6 = .ok (.iload_n 1, 1) := by decide +kernel
theorem dd_M_kern_7 : decode bb_M_kern 7 = .ok (.iconst 0, 1) := by decide +kernel
theorem dd_M_kern_8 : decode bb_M_kern 8 = .ok (.iconst 0, 1) := by decide +kernel
theorem dd_M_kern_9 : decode bb_M_kern 9 = .ok (.iconst 0, 1) := by decide +kernel
theorem dd_M_kern_10 : decode bb_M_kern 10 = .ok (.invokevirtual 88, 3) := by decide +kernel
theorem dd_M_kern_13 : decode bb_M_kern 13 = .ok (.ireturn, 1) := by decide +kernel

set_option maxHeartbeats 4000000 in
set_option maxRecDepth 100000 in
theorem ct_M_kern (l : Launch) (D : va_G) (cI cJ cZ : ClassId) (sz : Nat) (o : Nat) (th : Nat) (cn : Nat) (a0 : Nat) (a1 : Nat) (a2 : Nat) (a3 : Nat) (a4 : Nat) (a5 : Nat) (mn : Nat) (a6 : Nat) (a7 : Nat) (ps : Nat) (bk : Nat) (a8 : Nat) (a9 : Nat) (a10 : Nat) (a11 : Nat) (a12 : Nat) (a13 : Nat) (a14 : Nat) (a15 : Nat) (kf : Nat) (lb : Int32) (lc : Nat) (lo : Int64) (el : Nat) (ec : Nat) (eo : Int64) (eb : Int32) (ed : Int64) (mp : Nat) (ml : Nat) (md : Int64) (mo : Int64) (mb : Int32) (a16 : Nat) (a17 : Nat) (kd : Nat → Int32) (wd : Nat → Int32) (sr : Nat → Int32) (od : Nat → Int32) (sk : Nat → Int32) (w : Int32) (hcn : cn ≤ 4096) : kx_Mi l yy_M_kern ww_M_kern ({ frames := 2, cells := 0, slots := 0, locals := 42 }) D vwCl (kx_ty cI cJ cZ) [.ref o, .int w] [(o, .inr (0, [.int (nI th), .int (nI cn), .ref a0, .ref a1, .ref a2, .ref a3, .ref a4, .ref a5, .int (nI mn), .ref a6, .ref a7, .int (nI ps), .int (nI bk), .ref a8, .ref a9, .ref a10, .ref a11, .ref a12, .ref a13, .ref a14, .ref a15, .int (nI kf), .int lb, .int (nI lc), .long lo, .int (nI el), .int (nI ec), .long eo, .int eb, .long ed, .int (nI mp), .int (nI ml), .long md, .long mo, .int mb, .ref a16, .ref a17])), (a0, .inl (cI, 4097, .inl kd)), (a1, .inl (cI, 4097, .inl wd)), (a2, .inl (cI, 4097, .inl sr)), (a3, .inl (cI, 4097, .inl od)), (a4, .inl (cI, 4097, .inl sk))] sz (fun (r : Int32) (u : Nat × (Nat → Int32) × (Nat → Int32) × (Nat → Int32) × (Nat → Int32) × (Nat → Int32)) => (if ¬ (pm_wi w) ∨ cn = 4096 then r = (-1) ∧ u.1 = cn ∧ u.2.1 = kd ∧ u.2.2.1 = wd ∧ u.2.2.2.1 = sr ∧ u.2.2.2.2.1 = od ∧ u.2.2.2.2.2 = sk else r = nI cn ∧ u.1 = cn + 1 ∧ u.2.1 = upd kd cn (nI 2) ∧ u.2.2.1 = upd wd cn w ∧ u.2.2.2.1 = upd sr cn (nI 0) ∧ u.2.2.2.2.1 = upd od cn (nI 0) ∧ u.2.2.2.2.2 = upd sk cn (nI 0))) (fun (u : Nat × (Nat → Int32) × (Nat → Int32) × (Nat → Int32) × (Nat → Int32) × (Nat → Int32)) => [(o, .inr (0, [.int (nI 0), .int (nI u.1), .ref a0, .ref a1, .ref a2, .ref a3, .ref a4, .ref a5, .int (nI mn), .ref a6, .ref a7, .int (nI ps), .int (nI bk), .ref a8, .ref a9, .ref a10, .ref a11, .ref a12, .ref a13, .ref a14, .ref a15, .int (nI kf), .int lb, .int (nI lc), .long lo, .int (nI el), .int (nI ec), .long eo, .int eb, .long ed, .int (nI mp), .int (nI ml), .long md, .long mo, .int mb, .ref a16, .ref a17])), (a0, .inl (cI, 4097, .inl u.2.1)), (a1, .inl (cI, 4097, .inl u.2.2.1)), (a2, .inl (cI, 4097, .inl u.2.2.2.1)), (a3, .inl (cI, 4097, .inl u.2.2.2.2.1)), (a4, .inl (cI, 4097, .inl u.2.2.2.2.2))]) 0 0 := by
  refine kx_starti (by decide) rfl (Nat.le_of_ble_eq_true rfl) ?_
  intro p e s m below meth c A ls hx hb hr hml hts hown hlocks hin hP hK hN hD hA hS hl
  have hl : lv_has ls 2 [(0, .ref o), (1, .int w)] := hl
  have hown : s.vm.findClass rr_M = some m.cls := hown
  obtain ⟨H, hH⟩ : ∃ H, H = s.heap := ⟨_, rfl⟩
  obtain ⟨locs, hlocs⟩ : ∃ z : List Loc, z = [] := ⟨_, rfl⟩
  have hP : va_P D vwCl [(o, .inr (0, [.int (nI th), .int (nI cn), .ref a0, .ref a1, .ref a2, .ref a3, .ref a4, .ref a5, .int (nI mn), .ref a6, .ref a7, .int (nI ps), .int (nI bk), .ref a8, .ref a9, .ref a10, .ref a11, .ref a12, .ref a13, .ref a14, .ref a15, .int (nI kf), .int lb, .int (nI lc), .long lo, .int (nI el), .int (nI ec), .long eo, .int eb, .long ed, .int (nI mp), .int (nI ml), .long md, .long mo, .int mb, .ref a16, .ref a17])), (a0, .inl (cI, 4097, .inl kd)), (a1, .inl (cI, 4097, .inl wd)), (a2, .inl (cI, 4097, .inl sr)), (a3, .inl (cI, 4097, .inl od)), (a4, .inl (cI, 4097, .inl sk))] H := by rw [hH]; exact hP
  have hS : va_S A s.heap H locs := by rw [hH, hlocs]; exact hS
  refine kx_gen hH hlocs ?_
  clear hH hlocs
  refine kx_nameQ (fun Q hQ => ?_)
  refine lv_aload_n hx hb dd_M_kern_0 rfl (lv_at hl 0 rfl) ?_
  refine lv_iload_n hx hb dd_M_kern_1 rfl (lv_at hl 1 rfl) ?_
  refine kx_calli (wr := [(o, .inr (0, [.int (nI th), .int (nI cn), .ref a0, .ref a1, .ref a2, .ref a3, .ref a4, .ref a5, .int (nI mn), .ref a6, .ref a7, .int (nI ps), .int (nI bk), .ref a8, .ref a9, .ref a10, .ref a11, .ref a12, .ref a13, .ref a14, .ref a15, .int (nI kf), .int lb, .int (nI lc), .long lo, .int (nI el), .int (nI ec), .long eo, .int eb, .long ed, .int (nI mp), .int (nI ml), .long md, .long mo, .int mb, .ref a16, .ref a17])), (a0, .inl (cI, 4097, .inl kd)), (a1, .inl (cI, 4097, .inl wd)), (a2, .inl (cI, 4097, .inl sr)), (a3, .inl (cI, 4097, .inl od)), (a4, .inl (cI, 4097, .inl sk))]) (va_runS (As := [.int w]) (rest := [.ref o]) ⟨hx, hb, hml, hown, hts⟩ (ct_M_isWidth l D cI cJ cZ H.size w) ⟨(callB_of 1 hts (kx_good kw_928) rfl rfl rfl (hts _ (kx_m kw_53)) (hts _ (kx_m kw_926)) (by decide +kernel) ⟨Nat.le_of_ble_eq_true rfl, Nat.le_of_ble_eq_true rfl⟩), (hts _ (kx_m kw_927))⟩ (kx_preS hK hN (hP.sub [] kt_6_) (hD.sub [] (by decide) ks_6_)) rfl rfl hl.1 rfl (lv_room (Nat.le_of_ble_eq_true rfl)) dd_M_kern_2 ⟨Nat.le_of_ble_eq_true rfl, Nat.le_of_ble_eq_true rfl⟩) hP hD hS hA [] [0, 1, 2, 3, 4, 5] ks_6_ ks_6_0_1_2_3_4_5 (by decide) (by decide) (fun r2 u2 H locs hw2 hP hD hS => ?_)
  have hP : va_P D vwCl [(o, .inr (0, [.int (nI th), .int (nI cn), .ref a0, .ref a1, .ref a2, .ref a3, .ref a4, .ref a5, .int (nI mn), .ref a6, .ref a7, .int (nI ps), .int (nI bk), .ref a8, .ref a9, .ref a10, .ref a11, .ref a12, .ref a13, .ref a14, .ref a15, .int (nI kf), .int lb, .int (nI lc), .long lo, .int (nI el), .int (nI ec), .long eo, .int eb, .long ed, .int (nI mp), .int (nI ml), .long md, .long mo, .int mb, .ref a16, .ref a17])), (a0, .inl (cI, 4097, .inl kd)), (a1, .inl (cI, 4097, .inl wd)), (a2, .inl (cI, 4097, .inl sr)), (a3, .inl (cI, 4097, .inl od)), (a4, .inl (cI, 4097, .inl sk))] H := hP
  have hD : va_D A [(o, .inr (0, [.int (nI th), .int (nI cn), .ref a0, .ref a1, .ref a2, .ref a3, .ref a4, .ref a5, .int (nI mn), .ref a6, .ref a7, .int (nI ps), .int (nI bk), .ref a8, .ref a9, .ref a10, .ref a11, .ref a12, .ref a13, .ref a14, .ref a15, .int (nI kf), .int lb, .int (nI lc), .long lo, .int (nI el), .int (nI ec), .long eo, .int eb, .long ed, .int (nI mp), .int (nI ml), .long md, .long mo, .int mb, .ref a16, .ref a17])), (a0, .inl (cI, 4097, .inl kd)), (a1, .inl (cI, 4097, .inl wd)), (a2, .inl (cI, 4097, .inl sr)), (a3, .inl (cI, 4097, .inl od)), (a4, .inl (cI, 4097, .inl sk))] := hD
  have hw2 : r2 = kb_p (¬ w < (-1073741823) ∧ ¬ nI 1073741823 < w) := hw2
  subst hw2
  refine lv_iconst (v := nI 2) hx hb dd_M_kern_5 (by decide) ?_
  refine lv_iload_n hx hb dd_M_kern_6 rfl (lv_at hl 1 rfl) ?_
  refine lv_iconst (v := nI 0) hx hb dd_M_kern_7 (by decide) ?_
  refine lv_iconst (v := nI 0) hx hb dd_M_kern_8 (by decide) ?_
  refine lv_iconst (v := nI 0) hx hb dd_M_kern_9 (by decide) ?_
  refine kx_calli (wr := []) (va_runV (C := rr_M) (As := [.int (kb_p (¬ w < (-1073741823) ∧ ¬ nI 1073741823 < w)), .int (nI 2), .int w, .int (nI 0), .int (nI 0), .int (nI 0)]) (rest := []) ⟨hx, hb, hml, hown, hts⟩ (ct_M_add l D cI cJ cZ H.size o th cn a0 a1 a2 a3 a4 a5 mn a6 a7 ps bk a8 a9 a10 a11 a12 a13 a14 a15 kf lb lc lo el ec eo eb ed mp ml md mo mb a16 a17 kd wd sr od sk (kb_p (¬ w < (-1073741823) ∧ ¬ nI 1073741823 < w)) (nI 2) w (nI 0) (nI 0) (nI 0) (by omega)) ⟨(callB_of 6 hts (kx_good kw_942) rfl rfl rfl (hts _ (kx_m kw_53)) (hts _ (kx_m kw_939)) (by decide +kernel) ⟨Nat.le_of_ble_eq_true rfl, Nat.le_of_ble_eq_true rfl⟩), (hts _ (kx_m kw_941)), (hts _ (kx_m kw_23))⟩ (kx_preV (ci := 0) (q0 := 0) hK hN (hP.sub [0, 1, 2, 3, 4, 5] kt_6_0_1_2_3_4_5) (hD.sub [0, 1, 2, 3, 4, 5] (by decide) ks_6_0_1_2_3_4_5) rfl kg_6_0) rfl rfl hl.1 rfl (lv_room (Nat.le_of_ble_eq_true rfl)) dd_M_kern_10 ⟨Nat.le_of_ble_eq_true rfl, Nat.le_of_ble_eq_true rfl⟩) hP hD hS hA [0, 1, 2, 3, 4, 5] [] ks_6_0_1_2_3_4_5 ks_6_ (by decide) (by decide) (fun r10 u10 H locs hw10 hP hD hS => ?_)
  obtain ⟨cn2_10, kd2_10, wd2_10, sr2_10, od2_10, sk2_10⟩ := u10
  have hP : va_P D vwCl [(o, .inr (0, [.int (nI 0), .int (nI cn2_10), .ref a0, .ref a1, .ref a2, .ref a3, .ref a4, .ref a5, .int (nI mn), .ref a6, .ref a7, .int (nI ps), .int (nI bk), .ref a8, .ref a9, .ref a10, .ref a11, .ref a12, .ref a13, .ref a14, .ref a15, .int (nI kf), .int lb, .int (nI lc), .long lo, .int (nI el), .int (nI ec), .long eo, .int eb, .long ed, .int (nI mp), .int (nI ml), .long md, .long mo, .int mb, .ref a16, .ref a17])), (a0, .inl (cI, 4097, .inl kd2_10)), (a1, .inl (cI, 4097, .inl wd2_10)), (a2, .inl (cI, 4097, .inl sr2_10)), (a3, .inl (cI, 4097, .inl od2_10)), (a4, .inl (cI, 4097, .inl sk2_10))] H := hP
  have hD : va_D A [(o, .inr (0, [.int (nI 0), .int (nI cn2_10), .ref a0, .ref a1, .ref a2, .ref a3, .ref a4, .ref a5, .int (nI mn), .ref a6, .ref a7, .int (nI ps), .int (nI bk), .ref a8, .ref a9, .ref a10, .ref a11, .ref a12, .ref a13, .ref a14, .ref a15, .int (nI kf), .int lb, .int (nI lc), .long lo, .int (nI el), .int (nI ec), .long eo, .int eb, .long ed, .int (nI mp), .int (nI ml), .long md, .long mo, .int mb, .ref a16, .ref a17])), (a0, .inl (cI, 4097, .inl kd2_10)), (a1, .inl (cI, 4097, .inl wd2_10)), (a2, .inl (cI, 4097, .inl sr2_10)), (a3, .inl (cI, 4097, .inl od2_10)), (a4, .inl (cI, 4097, .inl sk2_10))] := hD
  have hw10 : (if (kb_p (¬ w < (-1073741823) ∧ ¬ nI 1073741823 < w)) = 0 ∨ cn = 4096 then r10 = (-1) ∧ cn2_10 = cn ∧ kd2_10 = kd ∧ wd2_10 = wd ∧ sr2_10 = sr ∧ od2_10 = od ∧ sk2_10 = sk else r10 = nI cn ∧ cn2_10 = cn + 1 ∧ kd2_10 = upd kd cn (nI 2) ∧ wd2_10 = upd wd cn w ∧ sr2_10 = upd sr cn (nI 0) ∧ od2_10 = upd od cn (nI 0) ∧ sk2_10 = upd sk cn (nI 0)) := hw10
  rw [hQ]
  exact kx_iret hx hb hr hlocks hK hN hS dd_M_kern_13 (cn2_10, kd2_10, wd2_10, sr2_10, od2_10, sk2_10) hP hD (by simpa only [kb_0] using hw10)

theorem dd_M_glue_0 : decode bb_M_glue 0 = .ok (.aload_n 0, 1) := by decide +kernel
theorem dd_M_glue_1 : decode bb_M_glue 1 = .ok (.iload_n 1, 1) := by decide +kernel
theorem dd_M_glue_2 : decode bb_M_glue 2 = .ok (.invokestatic 81, 3) := by decide +kernel
theorem dd_M_glue_5 : decode bb_M_glue 5 = .ok (.ifCond .eq (37), 3) := by decide +kernel
theorem dd_M_glue_8 : decode bb_M_glue 8 = .ok (.iload_n 2, 1) := by decide +kernel
theorem dd_M_glue_9 : decode bb_M_glue 9 = .ok (.iconst 0, 1) := by decide +kernel
theorem dd_M_glue_10 : decode bb_M_glue 10 = .ok (.ldc 75, 2) := by decide +kernel
theorem dd_M_glue_12 : decode bb_M_glue 12 = .ok (.invokestatic 76, 3) := by decide +kernel
theorem dd_M_glue_15 : decode bb_M_glue 15 = .ok (.ifCond .eq (27), 3) := by decide +kernel
theorem dd_M_glue_18 : decode bb_M_glue 18 = .ok (.iload_n 3, 1) := by decide +kernel
theorem dd_M_glue_19 : decode bb_M_glue 19 = .ok (.iconst 0, 1) := by decide +kernel
theorem dd_M_glue_20 : decode bb_M_glue 20 = .ok (.iconst 3, 1) := by decide +kernel
theorem dd_M_glue_21 : decode bb_M_glue 21 = .ok (.invokestatic 76, 3) := by decide +kernel
theorem dd_M_glue_24 : decode bb_M_glue 24 = .ok (.ifCond .eq (18), 3) := by decide +kernel
theorem dd_M_glue_27 : decode bb_M_glue 27 = .ok (.iload 4, 2) := by decide +kernel
theorem dd_M_glue_29 : decode bb_M_glue 29 = .ok (.iconst 0, 1) := by decide +kernel
theorem dd_M_glue_30 : decode bb_M_glue 30 = .ok (.ldc 75, 2) := by decide +kernel
theorem dd_M_glue_32 : decode bb_M_glue 32 = .ok (.invokestatic 76, 3) := by decide +kernel
theorem dd_M_glue_35 : decode bb_M_glue 35 = .ok (.ifCond .eq (7), 3) := by decide +kernel
theorem dd_M_glue_38 : decode bb_M_glue 38 = .ok (.iconst 1, 1) := by decide +kernel
theorem dd_M_glue_39 : decode bb_M_glue 39 = .ok (.goto (4), 3) := by decide +kernel
theorem dd_M_glue_42 : decode bb_M_glue 42 = .ok (.iconst 0, 1) := by decide +kernel
theorem dd_M_glue_43 : decode bb_M_glue 43 = .ok (.iconst 1, 1) := by decide +kernel
theorem dd_M_glue_44 : decode bb_M_glue 44 = .ok (.iload_n 1, 1) := by decide +kernel
theorem dd_M_glue_45 : decode bb_M_glue 45 = .ok (.iload_n 2, 1) := by decide +kernel
theorem dd_M_glue_46 : decode bb_M_glue 46 = .ok (.iload_n 3, 1) := by decide +kernel
theorem dd_M_glue_47 : decode bb_M_glue 47 = .ok (.iload 4, 2) := by decide +kernel
theorem dd_M_glue_49 : decode bb_M_glue 49 = .ok (.invokevirtual 88, 3) := by decide +kernel
theorem dd_M_glue_52 : decode bb_M_glue 52 = .ok (.ireturn, 1) := by decide +kernel

set_option maxHeartbeats 4000000 in
set_option maxRecDepth 100000 in
theorem ct_M_glue (l : Launch) (D : va_G) (cI cJ cZ : ClassId) (sz : Nat) (o : Nat) (th : Nat) (cn : Nat) (a0 : Nat) (a1 : Nat) (a2 : Nat) (a3 : Nat) (a4 : Nat) (a5 : Nat) (mn : Nat) (a6 : Nat) (a7 : Nat) (ps : Nat) (bk : Nat) (a8 : Nat) (a9 : Nat) (a10 : Nat) (a11 : Nat) (a12 : Nat) (a13 : Nat) (a14 : Nat) (a15 : Nat) (kf : Nat) (lb : Int32) (lc : Nat) (lo : Int64) (el : Nat) (ec : Nat) (eo : Int64) (eb : Int32) (ed : Int64) (mp : Nat) (ml : Nat) (md : Int64) (mo : Int64) (mb : Int32) (a16 : Nat) (a17 : Nat) (kd : Nat → Int32) (wd : Nat → Int32) (sr : Nat → Int32) (od : Nat → Int32) (sk : Nat → Int32) (w : Int32) (st2 : Int32) (or2 : Int32) (sh2 : Int32) (hcn : cn ≤ 4096) : kx_Mi l yy_M_glue ww_M_glue ({ frames := 2, cells := 0, slots := 0, locals := 42 }) D vwCl (kx_ty cI cJ cZ) [.ref o, .int w, .int st2, .int or2, .int sh2] [(o, .inr (0, [.int (nI th), .int (nI cn), .ref a0, .ref a1, .ref a2, .ref a3, .ref a4, .ref a5, .int (nI mn), .ref a6, .ref a7, .int (nI ps), .int (nI bk), .ref a8, .ref a9, .ref a10, .ref a11, .ref a12, .ref a13, .ref a14, .ref a15, .int (nI kf), .int lb, .int (nI lc), .long lo, .int (nI el), .int (nI ec), .long eo, .int eb, .long ed, .int (nI mp), .int (nI ml), .long md, .long mo, .int mb, .ref a16, .ref a17])), (a0, .inl (cI, 4097, .inl kd)), (a1, .inl (cI, 4097, .inl wd)), (a2, .inl (cI, 4097, .inl sr)), (a3, .inl (cI, 4097, .inl od)), (a4, .inl (cI, 4097, .inl sk))] sz (fun (r : Int32) (u : Nat × (Nat → Int32) × (Nat → Int32) × (Nat → Int32) × (Nat → Int32) × (Nat → Int32)) => (if ¬ (pm_gl w st2 or2 sh2) ∨ cn = 4096 then r = (-1) ∧ u.1 = cn ∧ u.2.1 = kd ∧ u.2.2.1 = wd ∧ u.2.2.2.1 = sr ∧ u.2.2.2.2.1 = od ∧ u.2.2.2.2.2 = sk else r = nI cn ∧ u.1 = cn + 1 ∧ u.2.1 = upd kd cn (nI 1) ∧ u.2.2.1 = upd wd cn w ∧ u.2.2.2.1 = upd sr cn st2 ∧ u.2.2.2.2.1 = upd od cn or2 ∧ u.2.2.2.2.2 = upd sk cn sh2)) (fun (u : Nat × (Nat → Int32) × (Nat → Int32) × (Nat → Int32) × (Nat → Int32) × (Nat → Int32)) => [(o, .inr (0, [.int (nI 0), .int (nI u.1), .ref a0, .ref a1, .ref a2, .ref a3, .ref a4, .ref a5, .int (nI mn), .ref a6, .ref a7, .int (nI ps), .int (nI bk), .ref a8, .ref a9, .ref a10, .ref a11, .ref a12, .ref a13, .ref a14, .ref a15, .int (nI kf), .int lb, .int (nI lc), .long lo, .int (nI el), .int (nI ec), .long eo, .int eb, .long ed, .int (nI mp), .int (nI ml), .long md, .long mo, .int mb, .ref a16, .ref a17])), (a0, .inl (cI, 4097, .inl u.2.1)), (a1, .inl (cI, 4097, .inl u.2.2.1)), (a2, .inl (cI, 4097, .inl u.2.2.2.1)), (a3, .inl (cI, 4097, .inl u.2.2.2.2.1)), (a4, .inl (cI, 4097, .inl u.2.2.2.2.2))]) 0 0 := by
  refine kx_starti (by decide) rfl (Nat.le_of_ble_eq_true rfl) ?_
  intro p e s m below meth c A ls hx hb hr hml hts hown hlocks hin hP hK hN hD hA hS hl
  have hl : lv_has ls 5 [(0, .ref o), (1, .int w), (2, .int st2), (3, .int or2), (4, .int sh2)] := hl
  have hown : s.vm.findClass rr_M = some m.cls := hown
  have lk0 := hts _ (kx_m kw_930)
  obtain ⟨H, hH⟩ : ∃ H, H = s.heap := ⟨_, rfl⟩
  obtain ⟨locs, hlocs⟩ : ∃ z : List Loc, z = [] := ⟨_, rfl⟩
  have hP : va_P D vwCl [(o, .inr (0, [.int (nI th), .int (nI cn), .ref a0, .ref a1, .ref a2, .ref a3, .ref a4, .ref a5, .int (nI mn), .ref a6, .ref a7, .int (nI ps), .int (nI bk), .ref a8, .ref a9, .ref a10, .ref a11, .ref a12, .ref a13, .ref a14, .ref a15, .int (nI kf), .int lb, .int (nI lc), .long lo, .int (nI el), .int (nI ec), .long eo, .int eb, .long ed, .int (nI mp), .int (nI ml), .long md, .long mo, .int mb, .ref a16, .ref a17])), (a0, .inl (cI, 4097, .inl kd)), (a1, .inl (cI, 4097, .inl wd)), (a2, .inl (cI, 4097, .inl sr)), (a3, .inl (cI, 4097, .inl od)), (a4, .inl (cI, 4097, .inl sk))] H := by rw [hH]; exact hP
  have hS : va_S A s.heap H locs := by rw [hH, hlocs]; exact hS
  refine kx_gen hH hlocs ?_
  clear hH hlocs
  refine kx_nameQ (fun Q hQ => ?_)
  refine lv_aload_n hx hb dd_M_glue_0 rfl (lv_at hl 0 rfl) ?_
  refine lv_iload_n hx hb dd_M_glue_1 rfl (lv_at hl 1 rfl) ?_
  refine kx_calli (wr := [(o, .inr (0, [.int (nI th), .int (nI cn), .ref a0, .ref a1, .ref a2, .ref a3, .ref a4, .ref a5, .int (nI mn), .ref a6, .ref a7, .int (nI ps), .int (nI bk), .ref a8, .ref a9, .ref a10, .ref a11, .ref a12, .ref a13, .ref a14, .ref a15, .int (nI kf), .int lb, .int (nI lc), .long lo, .int (nI el), .int (nI ec), .long eo, .int eb, .long ed, .int (nI mp), .int (nI ml), .long md, .long mo, .int mb, .ref a16, .ref a17])), (a0, .inl (cI, 4097, .inl kd)), (a1, .inl (cI, 4097, .inl wd)), (a2, .inl (cI, 4097, .inl sr)), (a3, .inl (cI, 4097, .inl od)), (a4, .inl (cI, 4097, .inl sk))]) (va_runS (As := [.int w]) (rest := [.ref o]) ⟨hx, hb, hml, hown, hts⟩ (ct_M_isWidth l D cI cJ cZ H.size w) ⟨(callB_of 1 hts (kx_good kw_928) rfl rfl rfl (hts _ (kx_m kw_53)) (hts _ (kx_m kw_926)) (by decide +kernel) ⟨Nat.le_of_ble_eq_true rfl, Nat.le_of_ble_eq_true rfl⟩), (hts _ (kx_m kw_927))⟩ (kx_preS hK hN (hP.sub [] kt_6_) (hD.sub [] (by decide) ks_6_)) rfl rfl hl.1 rfl (lv_room (Nat.le_of_ble_eq_true rfl)) dd_M_glue_2 ⟨Nat.le_of_ble_eq_true rfl, Nat.le_of_ble_eq_true rfl⟩) hP hD hS hA [] [0, 1, 2, 3, 4, 5] ks_6_ ks_6_0_1_2_3_4_5 (by decide) (by decide) (fun r2 u2 H locs hw2 hP hD hS => ?_)
  have hP : va_P D vwCl [(o, .inr (0, [.int (nI th), .int (nI cn), .ref a0, .ref a1, .ref a2, .ref a3, .ref a4, .ref a5, .int (nI mn), .ref a6, .ref a7, .int (nI ps), .int (nI bk), .ref a8, .ref a9, .ref a10, .ref a11, .ref a12, .ref a13, .ref a14, .ref a15, .int (nI kf), .int lb, .int (nI lc), .long lo, .int (nI el), .int (nI ec), .long eo, .int eb, .long ed, .int (nI mp), .int (nI ml), .long md, .long mo, .int mb, .ref a16, .ref a17])), (a0, .inl (cI, 4097, .inl kd)), (a1, .inl (cI, 4097, .inl wd)), (a2, .inl (cI, 4097, .inl sr)), (a3, .inl (cI, 4097, .inl od)), (a4, .inl (cI, 4097, .inl sk))] H := hP
  have hD : va_D A [(o, .inr (0, [.int (nI th), .int (nI cn), .ref a0, .ref a1, .ref a2, .ref a3, .ref a4, .ref a5, .int (nI mn), .ref a6, .ref a7, .int (nI ps), .int (nI bk), .ref a8, .ref a9, .ref a10, .ref a11, .ref a12, .ref a13, .ref a14, .ref a15, .int (nI kf), .int lb, .int (nI lc), .long lo, .int (nI el), .int (nI ec), .long eo, .int eb, .long ed, .int (nI mp), .int (nI ml), .long md, .long mo, .int mb, .ref a16, .ref a17])), (a0, .inl (cI, 4097, .inl kd)), (a1, .inl (cI, 4097, .inl wd)), (a2, .inl (cI, 4097, .inl sr)), (a3, .inl (cI, 4097, .inl od)), (a4, .inl (cI, 4097, .inl sk))] := hD
  have hw2 : r2 = kb_p (¬ w < (-1073741823) ∧ ¬ nI 1073741823 < w) := hw2
  subst hw2
  refine kx_joini (D := D) (cl := vwCl) (A := A) (ws := [(o, .inr (0, [.int (nI th), .int (nI cn), .ref a0, .ref a1, .ref a2, .ref a3, .ref a4, .ref a5, .int (nI mn), .ref a6, .ref a7, .int (nI ps), .int (nI bk), .ref a8, .ref a9, .ref a10, .ref a11, .ref a12, .ref a13, .ref a14, .ref a15, .int (nI kf), .int lb, .int (nI lc), .long lo, .int (nI el), .int (nI ec), .long eo, .int eb, .long ed, .int (nI mp), .int (nI ml), .long md, .long mo, .int mb, .ref a16, .ref a17])), (a0, .inl (cI, 4097, .inl kd)), (a1, .inl (cI, 4097, .inl wd)), (a2, .inl (cI, 4097, .inl sr)), (a3, .inl (cI, 4097, .inl od)), (a4, .inl (cI, 4097, .inl sk))]) (Y := 43) (ls1 := ls) (st1 := [.ref o]) (if ¬ w < (-1073741823) ∧ ¬ nI 1073741823 < w then (if ¬ st2 < (nI 0) ∧ ¬ (nI 1073741823) < st2 then (if ¬ or2 < (nI 0) ∧ ¬ (nI 3) < or2 then (if ¬ sh2 < (nI 0) ∧ ¬ (nI 1073741823) < sh2 then (nI 1) else (nI 0)) else (nI 0)) else (nI 0)) else (nI 0)) (fun v43 H locs e_v43 hP hD hS => ?_) (fun K43 => ?_)
  · skip
    obtain rfl : v43 = kb_p (pm_gl w st2 or2 sh2) := by rw [e_v43]; unfold kb_p; (repeat' split) <;> simp_all [pm_gl, pm_wi, pm_in]
    refine lv_iconst (v := nI 1) hx hb dd_M_glue_43 (by decide) ?_
    refine lv_iload_n hx hb dd_M_glue_44 rfl (lv_at hl 1 rfl) ?_
    refine lv_iload_n hx hb dd_M_glue_45 rfl (lv_at hl 2 rfl) ?_
    refine lv_iload_n hx hb dd_M_glue_46 rfl (lv_at hl 3 rfl) ?_
    refine lv_iload hx hb dd_M_glue_47 (lv_at hl 4 rfl) ?_
    refine kx_calli (wr := []) (va_runV (C := rr_M) (As := [.int (kb_p (pm_gl w st2 or2 sh2)), .int (nI 1), .int w, .int st2, .int or2, .int sh2]) (rest := []) ⟨hx, hb, hml, hown, hts⟩ (ct_M_add l D cI cJ cZ H.size o th cn a0 a1 a2 a3 a4 a5 mn a6 a7 ps bk a8 a9 a10 a11 a12 a13 a14 a15 kf lb lc lo el ec eo eb ed mp ml md mo mb a16 a17 kd wd sr od sk (kb_p (pm_gl w st2 or2 sh2)) (nI 1) w st2 or2 sh2 (by omega)) ⟨(callB_of 6 hts (kx_good kw_942) rfl rfl rfl (hts _ (kx_m kw_53)) (hts _ (kx_m kw_939)) (by decide +kernel) ⟨Nat.le_of_ble_eq_true rfl, Nat.le_of_ble_eq_true rfl⟩), (hts _ (kx_m kw_941)), (hts _ (kx_m kw_23))⟩ (kx_preV (ci := 0) (q0 := 0) hK hN (hP.sub [0, 1, 2, 3, 4, 5] kt_6_0_1_2_3_4_5) (hD.sub [0, 1, 2, 3, 4, 5] (by decide) ks_6_0_1_2_3_4_5) rfl kg_6_0) rfl rfl hl.1 rfl (lv_room (Nat.le_of_ble_eq_true rfl)) dd_M_glue_49 ⟨Nat.le_of_ble_eq_true rfl, Nat.le_of_ble_eq_true rfl⟩) hP hD hS hA [0, 1, 2, 3, 4, 5] [] ks_6_0_1_2_3_4_5 ks_6_ (by decide) (by decide) (fun r49 u49 H locs hw49 hP hD hS => ?_)
    obtain ⟨cn2_49, kd2_49, wd2_49, sr2_49, od2_49, sk2_49⟩ := u49
    have hP : va_P D vwCl [(o, .inr (0, [.int (nI 0), .int (nI cn2_49), .ref a0, .ref a1, .ref a2, .ref a3, .ref a4, .ref a5, .int (nI mn), .ref a6, .ref a7, .int (nI ps), .int (nI bk), .ref a8, .ref a9, .ref a10, .ref a11, .ref a12, .ref a13, .ref a14, .ref a15, .int (nI kf), .int lb, .int (nI lc), .long lo, .int (nI el), .int (nI ec), .long eo, .int eb, .long ed, .int (nI mp), .int (nI ml), .long md, .long mo, .int mb, .ref a16, .ref a17])), (a0, .inl (cI, 4097, .inl kd2_49)), (a1, .inl (cI, 4097, .inl wd2_49)), (a2, .inl (cI, 4097, .inl sr2_49)), (a3, .inl (cI, 4097, .inl od2_49)), (a4, .inl (cI, 4097, .inl sk2_49))] H := hP
    have hD : va_D A [(o, .inr (0, [.int (nI 0), .int (nI cn2_49), .ref a0, .ref a1, .ref a2, .ref a3, .ref a4, .ref a5, .int (nI mn), .ref a6, .ref a7, .int (nI ps), .int (nI bk), .ref a8, .ref a9, .ref a10, .ref a11, .ref a12, .ref a13, .ref a14, .ref a15, .int (nI kf), .int lb, .int (nI lc), .long lo, .int (nI el), .int (nI ec), .long eo, .int eb, .long ed, .int (nI mp), .int (nI ml), .long md, .long mo, .int mb, .ref a16, .ref a17])), (a0, .inl (cI, 4097, .inl kd2_49)), (a1, .inl (cI, 4097, .inl wd2_49)), (a2, .inl (cI, 4097, .inl sr2_49)), (a3, .inl (cI, 4097, .inl od2_49)), (a4, .inl (cI, 4097, .inl sk2_49))] := hD
    have hw49 : (if (kb_p (pm_gl w st2 or2 sh2)) = 0 ∨ cn = 4096 then r49 = (-1) ∧ cn2_49 = cn ∧ kd2_49 = kd ∧ wd2_49 = wd ∧ sr2_49 = sr ∧ od2_49 = od ∧ sk2_49 = sk else r49 = nI cn ∧ cn2_49 = cn + 1 ∧ kd2_49 = upd kd cn (nI 1) ∧ wd2_49 = upd wd cn w ∧ sr2_49 = upd sr cn st2 ∧ od2_49 = upd od cn or2 ∧ sk2_49 = upd sk cn sh2) := hw49
    rw [hQ]
    exact kx_iret hx hb hr hlocks hK hN hS dd_M_glue_52 (cn2_49, kd2_49, wd2_49, sr2_49, od2_49, sk2_49) hP hD (by simpa only [kb_0] using hw49)
  · skip
    refine lv_if_eq (tgt := 42) hx hb dd_M_glue_5 (by decide) (fun c5 => ?_) (fun c5 => ?_)
    · skip
      have c5 : ¬ (¬ w < (-1073741823) ∧ ¬ nI 1073741823 < w) := kb_0.mp c5
      refine lv_iconst (v := nI 0) hx hb dd_M_glue_42 (by decide) ?_
      exact K43 _ H locs (by rw [if_neg c5]) hP hD hS
    · skip
      have c5 : ¬ w < (-1073741823) ∧ ¬ nI 1073741823 < w := kb_1.mp c5
      refine lv_iload_n hx hb dd_M_glue_8 rfl (lv_at hl 2 rfl) ?_
      refine lv_iconst (v := nI 0) hx hb dd_M_glue_9 (by decide) ?_
      refine lv_ldc (v := nI 1073741823) hx hb hown lk0 dd_M_glue_10 ?_
      refine kx_calli (wr := [(o, .inr (0, [.int (nI th), .int (nI cn), .ref a0, .ref a1, .ref a2, .ref a3, .ref a4, .ref a5, .int (nI mn), .ref a6, .ref a7, .int (nI ps), .int (nI bk), .ref a8, .ref a9, .ref a10, .ref a11, .ref a12, .ref a13, .ref a14, .ref a15, .int (nI kf), .int lb, .int (nI lc), .long lo, .int (nI el), .int (nI ec), .long eo, .int eb, .long ed, .int (nI mp), .int (nI ml), .long md, .long mo, .int mb, .ref a16, .ref a17])), (a0, .inl (cI, 4097, .inl kd)), (a1, .inl (cI, 4097, .inl wd)), (a2, .inl (cI, 4097, .inl sr)), (a3, .inl (cI, 4097, .inl od)), (a4, .inl (cI, 4097, .inl sk))]) (va_runS (As := [.int st2, .int (nI 0), .int (nI 1073741823)]) (rest := [.ref o]) ⟨hx, hb, hml, hown, hts⟩ (ct_M_in l D cI cJ cZ H.size st2 (nI 0) (nI 1073741823)) ⟨(callB_of 3 hts (kx_good kw_921) rfl rfl rfl (hts _ (kx_m kw_53)) (hts _ (kx_m kw_919)) (by decide +kernel) ⟨Nat.le_of_ble_eq_true rfl, Nat.le_of_ble_eq_true rfl⟩), (hts _ (kx_m kw_920))⟩ (kx_preS hK hN (hP.sub [] kt_6_) (hD.sub [] (by decide) ks_6_)) rfl rfl hl.1 rfl (lv_room (Nat.le_of_ble_eq_true rfl)) dd_M_glue_12 ⟨Nat.le_of_ble_eq_true rfl, Nat.le_of_ble_eq_true rfl⟩) hP hD hS hA [] [0, 1, 2, 3, 4, 5] ks_6_ ks_6_0_1_2_3_4_5 (by decide) (by decide) (fun r12 u12 H locs hw12 hP hD hS => ?_)
      have hP : va_P D vwCl [(o, .inr (0, [.int (nI th), .int (nI cn), .ref a0, .ref a1, .ref a2, .ref a3, .ref a4, .ref a5, .int (nI mn), .ref a6, .ref a7, .int (nI ps), .int (nI bk), .ref a8, .ref a9, .ref a10, .ref a11, .ref a12, .ref a13, .ref a14, .ref a15, .int (nI kf), .int lb, .int (nI lc), .long lo, .int (nI el), .int (nI ec), .long eo, .int eb, .long ed, .int (nI mp), .int (nI ml), .long md, .long mo, .int mb, .ref a16, .ref a17])), (a0, .inl (cI, 4097, .inl kd)), (a1, .inl (cI, 4097, .inl wd)), (a2, .inl (cI, 4097, .inl sr)), (a3, .inl (cI, 4097, .inl od)), (a4, .inl (cI, 4097, .inl sk))] H := hP
      have hD : va_D A [(o, .inr (0, [.int (nI th), .int (nI cn), .ref a0, .ref a1, .ref a2, .ref a3, .ref a4, .ref a5, .int (nI mn), .ref a6, .ref a7, .int (nI ps), .int (nI bk), .ref a8, .ref a9, .ref a10, .ref a11, .ref a12, .ref a13, .ref a14, .ref a15, .int (nI kf), .int lb, .int (nI lc), .long lo, .int (nI el), .int (nI ec), .long eo, .int eb, .long ed, .int (nI mp), .int (nI ml), .long md, .long mo, .int mb, .ref a16, .ref a17])), (a0, .inl (cI, 4097, .inl kd)), (a1, .inl (cI, 4097, .inl wd)), (a2, .inl (cI, 4097, .inl sr)), (a3, .inl (cI, 4097, .inl od)), (a4, .inl (cI, 4097, .inl sk))] := hD
      have hw12 : r12 = kb_p (¬ st2 < (nI 0) ∧ ¬ (nI 1073741823) < st2) := hw12
      subst hw12
      refine lv_if_eq (tgt := 42) hx hb dd_M_glue_15 (by decide) (fun c15 => ?_) (fun c15 => ?_)
      · skip
        have c15 : ¬ (¬ st2 < (nI 0) ∧ ¬ (nI 1073741823) < st2) := kb_0.mp c15
        refine lv_iconst (v := nI 0) hx hb dd_M_glue_42 (by decide) ?_
        exact K43 _ H locs (by rw [if_pos c5, if_neg c15]) hP hD hS
      · skip
        have c15 : ¬ st2 < (nI 0) ∧ ¬ (nI 1073741823) < st2 := kb_1.mp c15
        refine lv_iload_n hx hb dd_M_glue_18 rfl (lv_at hl 3 rfl) ?_
        refine lv_iconst (v := nI 0) hx hb dd_M_glue_19 (by decide) ?_
        refine lv_iconst (v := nI 3) hx hb dd_M_glue_20 (by decide) ?_
        refine kx_calli (wr := [(o, .inr (0, [.int (nI th), .int (nI cn), .ref a0, .ref a1, .ref a2, .ref a3, .ref a4, .ref a5, .int (nI mn), .ref a6, .ref a7, .int (nI ps), .int (nI bk), .ref a8, .ref a9, .ref a10, .ref a11, .ref a12, .ref a13, .ref a14, .ref a15, .int (nI kf), .int lb, .int (nI lc), .long lo, .int (nI el), .int (nI ec), .long eo, .int eb, .long ed, .int (nI mp), .int (nI ml), .long md, .long mo, .int mb, .ref a16, .ref a17])), (a0, .inl (cI, 4097, .inl kd)), (a1, .inl (cI, 4097, .inl wd)), (a2, .inl (cI, 4097, .inl sr)), (a3, .inl (cI, 4097, .inl od)), (a4, .inl (cI, 4097, .inl sk))]) (va_runS (As := [.int or2, .int (nI 0), .int (nI 3)]) (rest := [.ref o]) ⟨hx, hb, hml, hown, hts⟩ (ct_M_in l D cI cJ cZ H.size or2 (nI 0) (nI 3)) ⟨(callB_of 3 hts (kx_good kw_921) rfl rfl rfl (hts _ (kx_m kw_53)) (hts _ (kx_m kw_919)) (by decide +kernel) ⟨Nat.le_of_ble_eq_true rfl, Nat.le_of_ble_eq_true rfl⟩), (hts _ (kx_m kw_920))⟩ (kx_preS hK hN (hP.sub [] kt_6_) (hD.sub [] (by decide) ks_6_)) rfl rfl hl.1 rfl (lv_room (Nat.le_of_ble_eq_true rfl)) dd_M_glue_21 ⟨Nat.le_of_ble_eq_true rfl, Nat.le_of_ble_eq_true rfl⟩) hP hD hS hA [] [0, 1, 2, 3, 4, 5] ks_6_ ks_6_0_1_2_3_4_5 (by decide) (by decide) (fun r21 u21 H locs hw21 hP hD hS => ?_)
        have hP : va_P D vwCl [(o, .inr (0, [.int (nI th), .int (nI cn), .ref a0, .ref a1, .ref a2, .ref a3, .ref a4, .ref a5, .int (nI mn), .ref a6, .ref a7, .int (nI ps), .int (nI bk), .ref a8, .ref a9, .ref a10, .ref a11, .ref a12, .ref a13, .ref a14, .ref a15, .int (nI kf), .int lb, .int (nI lc), .long lo, .int (nI el), .int (nI ec), .long eo, .int eb, .long ed, .int (nI mp), .int (nI ml), .long md, .long mo, .int mb, .ref a16, .ref a17])), (a0, .inl (cI, 4097, .inl kd)), (a1, .inl (cI, 4097, .inl wd)), (a2, .inl (cI, 4097, .inl sr)), (a3, .inl (cI, 4097, .inl od)), (a4, .inl (cI, 4097, .inl sk))] H := hP
        have hD : va_D A [(o, .inr (0, [.int (nI th), .int (nI cn), .ref a0, .ref a1, .ref a2, .ref a3, .ref a4, .ref a5, .int (nI mn), .ref a6, .ref a7, .int (nI ps), .int (nI bk), .ref a8, .ref a9, .ref a10, .ref a11, .ref a12, .ref a13, .ref a14, .ref a15, .int (nI kf), .int lb, .int (nI lc), .long lo, .int (nI el), .int (nI ec), .long eo, .int eb, .long ed, .int (nI mp), .int (nI ml), .long md, .long mo, .int mb, .ref a16, .ref a17])), (a0, .inl (cI, 4097, .inl kd)), (a1, .inl (cI, 4097, .inl wd)), (a2, .inl (cI, 4097, .inl sr)), (a3, .inl (cI, 4097, .inl od)), (a4, .inl (cI, 4097, .inl sk))] := hD
        have hw21 : r21 = kb_p (¬ or2 < (nI 0) ∧ ¬ (nI 3) < or2) := hw21
        subst hw21
        refine lv_if_eq (tgt := 42) hx hb dd_M_glue_24 (by decide) (fun c24 => ?_) (fun c24 => ?_)
        · skip
          have c24 : ¬ (¬ or2 < (nI 0) ∧ ¬ (nI 3) < or2) := kb_0.mp c24
          refine lv_iconst (v := nI 0) hx hb dd_M_glue_42 (by decide) ?_
          exact K43 _ H locs (by rw [if_pos c5, if_pos c15, if_neg c24]) hP hD hS
        · skip
          have c24 : ¬ or2 < (nI 0) ∧ ¬ (nI 3) < or2 := kb_1.mp c24
          refine lv_iload hx hb dd_M_glue_27 (lv_at hl 4 rfl) ?_
          refine lv_iconst (v := nI 0) hx hb dd_M_glue_29 (by decide) ?_
          refine lv_ldc (v := nI 1073741823) hx hb hown lk0 dd_M_glue_30 ?_
          refine kx_calli (wr := [(o, .inr (0, [.int (nI th), .int (nI cn), .ref a0, .ref a1, .ref a2, .ref a3, .ref a4, .ref a5, .int (nI mn), .ref a6, .ref a7, .int (nI ps), .int (nI bk), .ref a8, .ref a9, .ref a10, .ref a11, .ref a12, .ref a13, .ref a14, .ref a15, .int (nI kf), .int lb, .int (nI lc), .long lo, .int (nI el), .int (nI ec), .long eo, .int eb, .long ed, .int (nI mp), .int (nI ml), .long md, .long mo, .int mb, .ref a16, .ref a17])), (a0, .inl (cI, 4097, .inl kd)), (a1, .inl (cI, 4097, .inl wd)), (a2, .inl (cI, 4097, .inl sr)), (a3, .inl (cI, 4097, .inl od)), (a4, .inl (cI, 4097, .inl sk))]) (va_runS (As := [.int sh2, .int (nI 0), .int (nI 1073741823)]) (rest := [.ref o]) ⟨hx, hb, hml, hown, hts⟩ (ct_M_in l D cI cJ cZ H.size sh2 (nI 0) (nI 1073741823)) ⟨(callB_of 3 hts (kx_good kw_921) rfl rfl rfl (hts _ (kx_m kw_53)) (hts _ (kx_m kw_919)) (by decide +kernel) ⟨Nat.le_of_ble_eq_true rfl, Nat.le_of_ble_eq_true rfl⟩), (hts _ (kx_m kw_920))⟩ (kx_preS hK hN (hP.sub [] kt_6_) (hD.sub [] (by decide) ks_6_)) rfl rfl hl.1 rfl (lv_room (Nat.le_of_ble_eq_true rfl)) dd_M_glue_32 ⟨Nat.le_of_ble_eq_true rfl, Nat.le_of_ble_eq_true rfl⟩) hP hD hS hA [] [0, 1, 2, 3, 4, 5] ks_6_ ks_6_0_1_2_3_4_5 (by decide) (by decide) (fun r32 u32 H locs hw32 hP hD hS => ?_)
          have hP : va_P D vwCl [(o, .inr (0, [.int (nI th), .int (nI cn), .ref a0, .ref a1, .ref a2, .ref a3, .ref a4, .ref a5, .int (nI mn), .ref a6, .ref a7, .int (nI ps), .int (nI bk), .ref a8, .ref a9, .ref a10, .ref a11, .ref a12, .ref a13, .ref a14, .ref a15, .int (nI kf), .int lb, .int (nI lc), .long lo, .int (nI el), .int (nI ec), .long eo, .int eb, .long ed, .int (nI mp), .int (nI ml), .long md, .long mo, .int mb, .ref a16, .ref a17])), (a0, .inl (cI, 4097, .inl kd)), (a1, .inl (cI, 4097, .inl wd)), (a2, .inl (cI, 4097, .inl sr)), (a3, .inl (cI, 4097, .inl od)), (a4, .inl (cI, 4097, .inl sk))] H := hP
          have hD : va_D A [(o, .inr (0, [.int (nI th), .int (nI cn), .ref a0, .ref a1, .ref a2, .ref a3, .ref a4, .ref a5, .int (nI mn), .ref a6, .ref a7, .int (nI ps), .int (nI bk), .ref a8, .ref a9, .ref a10, .ref a11, .ref a12, .ref a13, .ref a14, .ref a15, .int (nI kf), .int lb, .int (nI lc), .long lo, .int (nI el), .int (nI ec), .long eo, .int eb, .long ed, .int (nI mp), .int (nI ml), .long md, .long mo, .int mb, .ref a16, .ref a17])), (a0, .inl (cI, 4097, .inl kd)), (a1, .inl (cI, 4097, .inl wd)), (a2, .inl (cI, 4097, .inl sr)), (a3, .inl (cI, 4097, .inl od)), (a4, .inl (cI, 4097, .inl sk))] := hD
          have hw32 : r32 = kb_p (¬ sh2 < (nI 0) ∧ ¬ (nI 1073741823) < sh2) := hw32
          subst hw32
          refine lv_if_eq (tgt := 42) hx hb dd_M_glue_35 (by decide) (fun c35 => ?_) (fun c35 => ?_)
          · skip
            have c35 : ¬ (¬ sh2 < (nI 0) ∧ ¬ (nI 1073741823) < sh2) := kb_0.mp c35
            refine lv_iconst (v := nI 0) hx hb dd_M_glue_42 (by decide) ?_
            exact K43 _ H locs (by rw [if_pos c5, if_pos c15, if_pos c24, if_neg c35]) hP hD hS
          · skip
            have c35 : ¬ sh2 < (nI 0) ∧ ¬ (nI 1073741823) < sh2 := kb_1.mp c35
            refine lv_iconst (v := nI 1) hx hb dd_M_glue_38 (by decide) ?_
            refine lv_goto (tgt := 43) hx hb dd_M_glue_39 (by decide) ?_
            exact K43 _ H locs (by rw [if_pos c5, if_pos c15, if_pos c24, if_pos c35]) hP hD hS

theorem dd_M_cut_0 : decode bb_M_cut 0 = .ok (.aload_n 0, 1) := by decide +kernel
theorem dd_M_cut_1 : decode bb_M_cut 1 = .ok (.iload_n 1, 1) := by decide +kernel
theorem dd_M_cut_2 : decode bb_M_cut 2 = .ok (.invokestatic 81, 3) := by decide +kernel
theorem dd_M_cut_5 : decode bb_M_cut 5 = .ok (.ifCond .eq (32), 3) := by decide +kernel
theorem dd_M_cut_8 : decode bb_M_cut 8 = .ok (.iload_n 2, 1) := by decide +kernel
theorem dd_M_cut_9 : decode bb_M_cut 9 = .ok (.invokestatic 81, 3) := by decide +kernel
theorem dd_M_cut_12 : decode bb_M_cut 12 = .ok (.ifCond .eq (25), 3) := by decide +kernel
theorem dd_M_cut_15 : decode bb_M_cut 15 = .ok (.iload_n 3, 1) := by decide +kernel
theorem dd_M_cut_16 : decode bb_M_cut 16 = .ok (.invokestatic 81, 3) := by decide +kernel
theorem dd_M_cut_19 : decode bb_M_cut 19 = .ok (.ifCond .eq (18), 3) := by decide +kernel
theorem dd_M_cut_22 : decode bb_M_cut 22 = .ok (.iload 4, 2) := by decide +kernel
theorem dd_M_cut_24 : decode bb_M_cut 24 = .ok (.iconst 0, 1) := by decide +kernel
theorem dd_M_cut_25 : decode bb_M_cut 25 = .ok (.bipush (7), 2) := by decide +kernel
theorem dd_M_cut_27 : decode bb_M_cut 27 = .ok (.invokestatic 76, 3) := by decide +kernel
theorem dd_M_cut_30 : decode bb_M_cut 30 = .ok (.ifCond .eq (7), 3) := by decide +kernel
theorem dd_M_cut_33 : decode bb_M_cut 33 = .ok (.iconst 1, 1) := by decide +kernel
theorem dd_M_cut_34 : decode bb_M_cut 34 = .ok (.goto (4), 3) := by decide +kernel
theorem dd_M_cut_37 : decode bb_M_cut 37 = .ok (.iconst 0, 1) := by decide +kernel
theorem dd_M_cut_38 : decode bb_M_cut 38 = .ok (.iconst 4, 1) := by decide +kernel
theorem dd_M_cut_39 : decode bb_M_cut 39 = .ok (.iload_n 3, 1) := by decide +kernel
theorem dd_M_cut_40 : decode bb_M_cut 40 = .ok (.iload_n 1, 1) := by decide +kernel
theorem dd_M_cut_41 : decode bb_M_cut 41 = .ok (.iload 4, 2) := by decide +kernel
theorem dd_M_cut_43 : decode bb_M_cut 43 = .ok (.iload_n 2, 1) := by decide +kernel
theorem dd_M_cut_44 : decode bb_M_cut 44 = .ok (.invokevirtual 88, 3) := by decide +kernel
theorem dd_M_cut_47 : decode bb_M_cut 47 = .ok (.ireturn, 1) := by decide +kernel

set_option maxHeartbeats 4000000 in
set_option maxRecDepth 100000 in
theorem ct_M_cut (l : Launch) (D : va_G) (cI cJ cZ : ClassId) (sz : Nat) (o : Nat) (th : Nat) (cn : Nat) (a0 : Nat) (a1 : Nat) (a2 : Nat) (a3 : Nat) (a4 : Nat) (a5 : Nat) (mn : Nat) (a6 : Nat) (a7 : Nat) (ps : Nat) (bk : Nat) (a8 : Nat) (a9 : Nat) (a10 : Nat) (a11 : Nat) (a12 : Nat) (a13 : Nat) (a14 : Nat) (a15 : Nat) (kf : Nat) (lb : Int32) (lc : Nat) (lo : Int64) (el : Nat) (ec : Nat) (eo : Int64) (eb : Int32) (ed : Int64) (mp : Nat) (ml : Nat) (md : Int64) (mo : Int64) (mb : Int32) (a16 : Nat) (a17 : Nat) (kd : Nat → Int32) (wd : Nat → Int32) (sr : Nat → Int32) (od : Nat → Int32) (sk : Nat → Int32) (x1 : Int32) (x2 : Int32) (x3 : Int32) (fl : Int32) (hcn : cn ≤ 4096) : kx_Mi l yy_M_cut ww_M_cut ({ frames := 2, cells := 0, slots := 0, locals := 42 }) D vwCl (kx_ty cI cJ cZ) [.ref o, .int x1, .int x2, .int x3, .int fl] [(o, .inr (0, [.int (nI th), .int (nI cn), .ref a0, .ref a1, .ref a2, .ref a3, .ref a4, .ref a5, .int (nI mn), .ref a6, .ref a7, .int (nI ps), .int (nI bk), .ref a8, .ref a9, .ref a10, .ref a11, .ref a12, .ref a13, .ref a14, .ref a15, .int (nI kf), .int lb, .int (nI lc), .long lo, .int (nI el), .int (nI ec), .long eo, .int eb, .long ed, .int (nI mp), .int (nI ml), .long md, .long mo, .int mb, .ref a16, .ref a17])), (a0, .inl (cI, 4097, .inl kd)), (a1, .inl (cI, 4097, .inl wd)), (a2, .inl (cI, 4097, .inl sr)), (a3, .inl (cI, 4097, .inl od)), (a4, .inl (cI, 4097, .inl sk))] sz (fun (r : Int32) (u : Nat × (Nat → Int32) × (Nat → Int32) × (Nat → Int32) × (Nat → Int32) × (Nat → Int32)) => (if ¬ (pm_cu x1 x2 x3 fl) ∨ cn = 4096 then r = (-1) ∧ u.1 = cn ∧ u.2.1 = kd ∧ u.2.2.1 = wd ∧ u.2.2.2.1 = sr ∧ u.2.2.2.2.1 = od ∧ u.2.2.2.2.2 = sk else r = nI cn ∧ u.1 = cn + 1 ∧ u.2.1 = upd kd cn (nI 4) ∧ u.2.2.1 = upd wd cn x3 ∧ u.2.2.2.1 = upd sr cn x1 ∧ u.2.2.2.2.1 = upd od cn fl ∧ u.2.2.2.2.2 = upd sk cn x2)) (fun (u : Nat × (Nat → Int32) × (Nat → Int32) × (Nat → Int32) × (Nat → Int32) × (Nat → Int32)) => [(o, .inr (0, [.int (nI 0), .int (nI u.1), .ref a0, .ref a1, .ref a2, .ref a3, .ref a4, .ref a5, .int (nI mn), .ref a6, .ref a7, .int (nI ps), .int (nI bk), .ref a8, .ref a9, .ref a10, .ref a11, .ref a12, .ref a13, .ref a14, .ref a15, .int (nI kf), .int lb, .int (nI lc), .long lo, .int (nI el), .int (nI ec), .long eo, .int eb, .long ed, .int (nI mp), .int (nI ml), .long md, .long mo, .int mb, .ref a16, .ref a17])), (a0, .inl (cI, 4097, .inl u.2.1)), (a1, .inl (cI, 4097, .inl u.2.2.1)), (a2, .inl (cI, 4097, .inl u.2.2.2.1)), (a3, .inl (cI, 4097, .inl u.2.2.2.2.1)), (a4, .inl (cI, 4097, .inl u.2.2.2.2.2))]) 0 0 := by
  refine kx_starti (by decide) rfl (Nat.le_of_ble_eq_true rfl) ?_
  intro p e s m below meth c A ls hx hb hr hml hts hown hlocks hin hP hK hN hD hA hS hl
  have hl : lv_has ls 5 [(0, .ref o), (1, .int x1), (2, .int x2), (3, .int x3), (4, .int fl)] := hl
  have hown : s.vm.findClass rr_M = some m.cls := hown
  obtain ⟨H, hH⟩ : ∃ H, H = s.heap := ⟨_, rfl⟩
  obtain ⟨locs, hlocs⟩ : ∃ z : List Loc, z = [] := ⟨_, rfl⟩
  have hP : va_P D vwCl [(o, .inr (0, [.int (nI th), .int (nI cn), .ref a0, .ref a1, .ref a2, .ref a3, .ref a4, .ref a5, .int (nI mn), .ref a6, .ref a7, .int (nI ps), .int (nI bk), .ref a8, .ref a9, .ref a10, .ref a11, .ref a12, .ref a13, .ref a14, .ref a15, .int (nI kf), .int lb, .int (nI lc), .long lo, .int (nI el), .int (nI ec), .long eo, .int eb, .long ed, .int (nI mp), .int (nI ml), .long md, .long mo, .int mb, .ref a16, .ref a17])), (a0, .inl (cI, 4097, .inl kd)), (a1, .inl (cI, 4097, .inl wd)), (a2, .inl (cI, 4097, .inl sr)), (a3, .inl (cI, 4097, .inl od)), (a4, .inl (cI, 4097, .inl sk))] H := by rw [hH]; exact hP
  have hS : va_S A s.heap H locs := by rw [hH, hlocs]; exact hS
  refine kx_gen hH hlocs ?_
  clear hH hlocs
  refine kx_nameQ (fun Q hQ => ?_)
  refine lv_aload_n hx hb dd_M_cut_0 rfl (lv_at hl 0 rfl) ?_
  refine lv_iload_n hx hb dd_M_cut_1 rfl (lv_at hl 1 rfl) ?_
  refine kx_calli (wr := [(o, .inr (0, [.int (nI th), .int (nI cn), .ref a0, .ref a1, .ref a2, .ref a3, .ref a4, .ref a5, .int (nI mn), .ref a6, .ref a7, .int (nI ps), .int (nI bk), .ref a8, .ref a9, .ref a10, .ref a11, .ref a12, .ref a13, .ref a14, .ref a15, .int (nI kf), .int lb, .int (nI lc), .long lo, .int (nI el), .int (nI ec), .long eo, .int eb, .long ed, .int (nI mp), .int (nI ml), .long md, .long mo, .int mb, .ref a16, .ref a17])), (a0, .inl (cI, 4097, .inl kd)), (a1, .inl (cI, 4097, .inl wd)), (a2, .inl (cI, 4097, .inl sr)), (a3, .inl (cI, 4097, .inl od)), (a4, .inl (cI, 4097, .inl sk))]) (va_runS (As := [.int x1]) (rest := [.ref o]) ⟨hx, hb, hml, hown, hts⟩ (ct_M_isWidth l D cI cJ cZ H.size x1) ⟨(callB_of 1 hts (kx_good kw_928) rfl rfl rfl (hts _ (kx_m kw_53)) (hts _ (kx_m kw_926)) (by decide +kernel) ⟨Nat.le_of_ble_eq_true rfl, Nat.le_of_ble_eq_true rfl⟩), (hts _ (kx_m kw_927))⟩ (kx_preS hK hN (hP.sub [] kt_6_) (hD.sub [] (by decide) ks_6_)) rfl rfl hl.1 rfl (lv_room (Nat.le_of_ble_eq_true rfl)) dd_M_cut_2 ⟨Nat.le_of_ble_eq_true rfl, Nat.le_of_ble_eq_true rfl⟩) hP hD hS hA [] [0, 1, 2, 3, 4, 5] ks_6_ ks_6_0_1_2_3_4_5 (by decide) (by decide) (fun r2 u2 H locs hw2 hP hD hS => ?_)
  have hP : va_P D vwCl [(o, .inr (0, [.int (nI th), .int (nI cn), .ref a0, .ref a1, .ref a2, .ref a3, .ref a4, .ref a5, .int (nI mn), .ref a6, .ref a7, .int (nI ps), .int (nI bk), .ref a8, .ref a9, .ref a10, .ref a11, .ref a12, .ref a13, .ref a14, .ref a15, .int (nI kf), .int lb, .int (nI lc), .long lo, .int (nI el), .int (nI ec), .long eo, .int eb, .long ed, .int (nI mp), .int (nI ml), .long md, .long mo, .int mb, .ref a16, .ref a17])), (a0, .inl (cI, 4097, .inl kd)), (a1, .inl (cI, 4097, .inl wd)), (a2, .inl (cI, 4097, .inl sr)), (a3, .inl (cI, 4097, .inl od)), (a4, .inl (cI, 4097, .inl sk))] H := hP
  have hD : va_D A [(o, .inr (0, [.int (nI th), .int (nI cn), .ref a0, .ref a1, .ref a2, .ref a3, .ref a4, .ref a5, .int (nI mn), .ref a6, .ref a7, .int (nI ps), .int (nI bk), .ref a8, .ref a9, .ref a10, .ref a11, .ref a12, .ref a13, .ref a14, .ref a15, .int (nI kf), .int lb, .int (nI lc), .long lo, .int (nI el), .int (nI ec), .long eo, .int eb, .long ed, .int (nI mp), .int (nI ml), .long md, .long mo, .int mb, .ref a16, .ref a17])), (a0, .inl (cI, 4097, .inl kd)), (a1, .inl (cI, 4097, .inl wd)), (a2, .inl (cI, 4097, .inl sr)), (a3, .inl (cI, 4097, .inl od)), (a4, .inl (cI, 4097, .inl sk))] := hD
  have hw2 : r2 = kb_p (¬ x1 < (-1073741823) ∧ ¬ nI 1073741823 < x1) := hw2
  subst hw2
  refine kx_joini (D := D) (cl := vwCl) (A := A) (ws := [(o, .inr (0, [.int (nI th), .int (nI cn), .ref a0, .ref a1, .ref a2, .ref a3, .ref a4, .ref a5, .int (nI mn), .ref a6, .ref a7, .int (nI ps), .int (nI bk), .ref a8, .ref a9, .ref a10, .ref a11, .ref a12, .ref a13, .ref a14, .ref a15, .int (nI kf), .int lb, .int (nI lc), .long lo, .int (nI el), .int (nI ec), .long eo, .int eb, .long ed, .int (nI mp), .int (nI ml), .long md, .long mo, .int mb, .ref a16, .ref a17])), (a0, .inl (cI, 4097, .inl kd)), (a1, .inl (cI, 4097, .inl wd)), (a2, .inl (cI, 4097, .inl sr)), (a3, .inl (cI, 4097, .inl od)), (a4, .inl (cI, 4097, .inl sk))]) (Y := 38) (ls1 := ls) (st1 := [.ref o]) (if ¬ x1 < (-1073741823) ∧ ¬ nI 1073741823 < x1 then (if ¬ x2 < (-1073741823) ∧ ¬ nI 1073741823 < x2 then (if ¬ x3 < (-1073741823) ∧ ¬ nI 1073741823 < x3 then (if ¬ fl < (nI 0) ∧ ¬ (nI 7) < fl then (nI 1) else (nI 0)) else (nI 0)) else (nI 0)) else (nI 0)) (fun v38 H locs e_v38 hP hD hS => ?_) (fun K38 => ?_)
  · skip
    obtain rfl : v38 = kb_p (pm_cu x1 x2 x3 fl) := by rw [e_v38]; unfold kb_p; (repeat' split) <;> simp_all [pm_cu, pm_wi, pm_in]
    refine lv_iconst (v := nI 4) hx hb dd_M_cut_38 (by decide) ?_
    refine lv_iload_n hx hb dd_M_cut_39 rfl (lv_at hl 3 rfl) ?_
    refine lv_iload_n hx hb dd_M_cut_40 rfl (lv_at hl 1 rfl) ?_
    refine lv_iload hx hb dd_M_cut_41 (lv_at hl 4 rfl) ?_
    refine lv_iload_n hx hb dd_M_cut_43 rfl (lv_at hl 2 rfl) ?_
    refine kx_calli (wr := []) (va_runV (C := rr_M) (As := [.int (kb_p (pm_cu x1 x2 x3 fl)), .int (nI 4), .int x3, .int x1, .int fl, .int x2]) (rest := []) ⟨hx, hb, hml, hown, hts⟩ (ct_M_add l D cI cJ cZ H.size o th cn a0 a1 a2 a3 a4 a5 mn a6 a7 ps bk a8 a9 a10 a11 a12 a13 a14 a15 kf lb lc lo el ec eo eb ed mp ml md mo mb a16 a17 kd wd sr od sk (kb_p (pm_cu x1 x2 x3 fl)) (nI 4) x3 x1 fl x2 (by omega)) ⟨(callB_of 6 hts (kx_good kw_942) rfl rfl rfl (hts _ (kx_m kw_53)) (hts _ (kx_m kw_939)) (by decide +kernel) ⟨Nat.le_of_ble_eq_true rfl, Nat.le_of_ble_eq_true rfl⟩), (hts _ (kx_m kw_941)), (hts _ (kx_m kw_23))⟩ (kx_preV (ci := 0) (q0 := 0) hK hN (hP.sub [0, 1, 2, 3, 4, 5] kt_6_0_1_2_3_4_5) (hD.sub [0, 1, 2, 3, 4, 5] (by decide) ks_6_0_1_2_3_4_5) rfl kg_6_0) rfl rfl hl.1 rfl (lv_room (Nat.le_of_ble_eq_true rfl)) dd_M_cut_44 ⟨Nat.le_of_ble_eq_true rfl, Nat.le_of_ble_eq_true rfl⟩) hP hD hS hA [0, 1, 2, 3, 4, 5] [] ks_6_0_1_2_3_4_5 ks_6_ (by decide) (by decide) (fun r44 u44 H locs hw44 hP hD hS => ?_)
    obtain ⟨cn2_44, kd2_44, wd2_44, sr2_44, od2_44, sk2_44⟩ := u44
    have hP : va_P D vwCl [(o, .inr (0, [.int (nI 0), .int (nI cn2_44), .ref a0, .ref a1, .ref a2, .ref a3, .ref a4, .ref a5, .int (nI mn), .ref a6, .ref a7, .int (nI ps), .int (nI bk), .ref a8, .ref a9, .ref a10, .ref a11, .ref a12, .ref a13, .ref a14, .ref a15, .int (nI kf), .int lb, .int (nI lc), .long lo, .int (nI el), .int (nI ec), .long eo, .int eb, .long ed, .int (nI mp), .int (nI ml), .long md, .long mo, .int mb, .ref a16, .ref a17])), (a0, .inl (cI, 4097, .inl kd2_44)), (a1, .inl (cI, 4097, .inl wd2_44)), (a2, .inl (cI, 4097, .inl sr2_44)), (a3, .inl (cI, 4097, .inl od2_44)), (a4, .inl (cI, 4097, .inl sk2_44))] H := hP
    have hD : va_D A [(o, .inr (0, [.int (nI 0), .int (nI cn2_44), .ref a0, .ref a1, .ref a2, .ref a3, .ref a4, .ref a5, .int (nI mn), .ref a6, .ref a7, .int (nI ps), .int (nI bk), .ref a8, .ref a9, .ref a10, .ref a11, .ref a12, .ref a13, .ref a14, .ref a15, .int (nI kf), .int lb, .int (nI lc), .long lo, .int (nI el), .int (nI ec), .long eo, .int eb, .long ed, .int (nI mp), .int (nI ml), .long md, .long mo, .int mb, .ref a16, .ref a17])), (a0, .inl (cI, 4097, .inl kd2_44)), (a1, .inl (cI, 4097, .inl wd2_44)), (a2, .inl (cI, 4097, .inl sr2_44)), (a3, .inl (cI, 4097, .inl od2_44)), (a4, .inl (cI, 4097, .inl sk2_44))] := hD
    have hw44 : (if (kb_p (pm_cu x1 x2 x3 fl)) = 0 ∨ cn = 4096 then r44 = (-1) ∧ cn2_44 = cn ∧ kd2_44 = kd ∧ wd2_44 = wd ∧ sr2_44 = sr ∧ od2_44 = od ∧ sk2_44 = sk else r44 = nI cn ∧ cn2_44 = cn + 1 ∧ kd2_44 = upd kd cn (nI 4) ∧ wd2_44 = upd wd cn x3 ∧ sr2_44 = upd sr cn x1 ∧ od2_44 = upd od cn fl ∧ sk2_44 = upd sk cn x2) := hw44
    rw [hQ]
    exact kx_iret hx hb hr hlocks hK hN hS dd_M_cut_47 (cn2_44, kd2_44, wd2_44, sr2_44, od2_44, sk2_44) hP hD (by simpa only [kb_0] using hw44)
  · skip
    refine lv_if_eq (tgt := 37) hx hb dd_M_cut_5 (by decide) (fun c5 => ?_) (fun c5 => ?_)
    · skip
      have c5 : ¬ (¬ x1 < (-1073741823) ∧ ¬ nI 1073741823 < x1) := kb_0.mp c5
      refine lv_iconst (v := nI 0) hx hb dd_M_cut_37 (by decide) ?_
      exact K38 _ H locs (by rw [if_neg c5]) hP hD hS
    · skip
      have c5 : ¬ x1 < (-1073741823) ∧ ¬ nI 1073741823 < x1 := kb_1.mp c5
      refine lv_iload_n hx hb dd_M_cut_8 rfl (lv_at hl 2 rfl) ?_
      refine kx_calli (wr := [(o, .inr (0, [.int (nI th), .int (nI cn), .ref a0, .ref a1, .ref a2, .ref a3, .ref a4, .ref a5, .int (nI mn), .ref a6, .ref a7, .int (nI ps), .int (nI bk), .ref a8, .ref a9, .ref a10, .ref a11, .ref a12, .ref a13, .ref a14, .ref a15, .int (nI kf), .int lb, .int (nI lc), .long lo, .int (nI el), .int (nI ec), .long eo, .int eb, .long ed, .int (nI mp), .int (nI ml), .long md, .long mo, .int mb, .ref a16, .ref a17])), (a0, .inl (cI, 4097, .inl kd)), (a1, .inl (cI, 4097, .inl wd)), (a2, .inl (cI, 4097, .inl sr)), (a3, .inl (cI, 4097, .inl od)), (a4, .inl (cI, 4097, .inl sk))]) (va_runS (As := [.int x2]) (rest := [.ref o]) ⟨hx, hb, hml, hown, hts⟩ (ct_M_isWidth l D cI cJ cZ H.size x2) ⟨(callB_of 1 hts (kx_good kw_928) rfl rfl rfl (hts _ (kx_m kw_53)) (hts _ (kx_m kw_926)) (by decide +kernel) ⟨Nat.le_of_ble_eq_true rfl, Nat.le_of_ble_eq_true rfl⟩), (hts _ (kx_m kw_927))⟩ (kx_preS hK hN (hP.sub [] kt_6_) (hD.sub [] (by decide) ks_6_)) rfl rfl hl.1 rfl (lv_room (Nat.le_of_ble_eq_true rfl)) dd_M_cut_9 ⟨Nat.le_of_ble_eq_true rfl, Nat.le_of_ble_eq_true rfl⟩) hP hD hS hA [] [0, 1, 2, 3, 4, 5] ks_6_ ks_6_0_1_2_3_4_5 (by decide) (by decide) (fun r9 u9 H locs hw9 hP hD hS => ?_)
      have hP : va_P D vwCl [(o, .inr (0, [.int (nI th), .int (nI cn), .ref a0, .ref a1, .ref a2, .ref a3, .ref a4, .ref a5, .int (nI mn), .ref a6, .ref a7, .int (nI ps), .int (nI bk), .ref a8, .ref a9, .ref a10, .ref a11, .ref a12, .ref a13, .ref a14, .ref a15, .int (nI kf), .int lb, .int (nI lc), .long lo, .int (nI el), .int (nI ec), .long eo, .int eb, .long ed, .int (nI mp), .int (nI ml), .long md, .long mo, .int mb, .ref a16, .ref a17])), (a0, .inl (cI, 4097, .inl kd)), (a1, .inl (cI, 4097, .inl wd)), (a2, .inl (cI, 4097, .inl sr)), (a3, .inl (cI, 4097, .inl od)), (a4, .inl (cI, 4097, .inl sk))] H := hP
      have hD : va_D A [(o, .inr (0, [.int (nI th), .int (nI cn), .ref a0, .ref a1, .ref a2, .ref a3, .ref a4, .ref a5, .int (nI mn), .ref a6, .ref a7, .int (nI ps), .int (nI bk), .ref a8, .ref a9, .ref a10, .ref a11, .ref a12, .ref a13, .ref a14, .ref a15, .int (nI kf), .int lb, .int (nI lc), .long lo, .int (nI el), .int (nI ec), .long eo, .int eb, .long ed, .int (nI mp), .int (nI ml), .long md, .long mo, .int mb, .ref a16, .ref a17])), (a0, .inl (cI, 4097, .inl kd)), (a1, .inl (cI, 4097, .inl wd)), (a2, .inl (cI, 4097, .inl sr)), (a3, .inl (cI, 4097, .inl od)), (a4, .inl (cI, 4097, .inl sk))] := hD
      have hw9 : r9 = kb_p (¬ x2 < (-1073741823) ∧ ¬ nI 1073741823 < x2) := hw9
      subst hw9
      refine lv_if_eq (tgt := 37) hx hb dd_M_cut_12 (by decide) (fun c12 => ?_) (fun c12 => ?_)
      · skip
        have c12 : ¬ (¬ x2 < (-1073741823) ∧ ¬ nI 1073741823 < x2) := kb_0.mp c12
        refine lv_iconst (v := nI 0) hx hb dd_M_cut_37 (by decide) ?_
        exact K38 _ H locs (by rw [if_pos c5, if_neg c12]) hP hD hS
      · skip
        have c12 : ¬ x2 < (-1073741823) ∧ ¬ nI 1073741823 < x2 := kb_1.mp c12
        refine lv_iload_n hx hb dd_M_cut_15 rfl (lv_at hl 3 rfl) ?_
        refine kx_calli (wr := [(o, .inr (0, [.int (nI th), .int (nI cn), .ref a0, .ref a1, .ref a2, .ref a3, .ref a4, .ref a5, .int (nI mn), .ref a6, .ref a7, .int (nI ps), .int (nI bk), .ref a8, .ref a9, .ref a10, .ref a11, .ref a12, .ref a13, .ref a14, .ref a15, .int (nI kf), .int lb, .int (nI lc), .long lo, .int (nI el), .int (nI ec), .long eo, .int eb, .long ed, .int (nI mp), .int (nI ml), .long md, .long mo, .int mb, .ref a16, .ref a17])), (a0, .inl (cI, 4097, .inl kd)), (a1, .inl (cI, 4097, .inl wd)), (a2, .inl (cI, 4097, .inl sr)), (a3, .inl (cI, 4097, .inl od)), (a4, .inl (cI, 4097, .inl sk))]) (va_runS (As := [.int x3]) (rest := [.ref o]) ⟨hx, hb, hml, hown, hts⟩ (ct_M_isWidth l D cI cJ cZ H.size x3) ⟨(callB_of 1 hts (kx_good kw_928) rfl rfl rfl (hts _ (kx_m kw_53)) (hts _ (kx_m kw_926)) (by decide +kernel) ⟨Nat.le_of_ble_eq_true rfl, Nat.le_of_ble_eq_true rfl⟩), (hts _ (kx_m kw_927))⟩ (kx_preS hK hN (hP.sub [] kt_6_) (hD.sub [] (by decide) ks_6_)) rfl rfl hl.1 rfl (lv_room (Nat.le_of_ble_eq_true rfl)) dd_M_cut_16 ⟨Nat.le_of_ble_eq_true rfl, Nat.le_of_ble_eq_true rfl⟩) hP hD hS hA [] [0, 1, 2, 3, 4, 5] ks_6_ ks_6_0_1_2_3_4_5 (by decide) (by decide) (fun r16 u16 H locs hw16 hP hD hS => ?_)
        have hP : va_P D vwCl [(o, .inr (0, [.int (nI th), .int (nI cn), .ref a0, .ref a1, .ref a2, .ref a3, .ref a4, .ref a5, .int (nI mn), .ref a6, .ref a7, .int (nI ps), .int (nI bk), .ref a8, .ref a9, .ref a10, .ref a11, .ref a12, .ref a13, .ref a14, .ref a15, .int (nI kf), .int lb, .int (nI lc), .long lo, .int (nI el), .int (nI ec), .long eo, .int eb, .long ed, .int (nI mp), .int (nI ml), .long md, .long mo, .int mb, .ref a16, .ref a17])), (a0, .inl (cI, 4097, .inl kd)), (a1, .inl (cI, 4097, .inl wd)), (a2, .inl (cI, 4097, .inl sr)), (a3, .inl (cI, 4097, .inl od)), (a4, .inl (cI, 4097, .inl sk))] H := hP
        have hD : va_D A [(o, .inr (0, [.int (nI th), .int (nI cn), .ref a0, .ref a1, .ref a2, .ref a3, .ref a4, .ref a5, .int (nI mn), .ref a6, .ref a7, .int (nI ps), .int (nI bk), .ref a8, .ref a9, .ref a10, .ref a11, .ref a12, .ref a13, .ref a14, .ref a15, .int (nI kf), .int lb, .int (nI lc), .long lo, .int (nI el), .int (nI ec), .long eo, .int eb, .long ed, .int (nI mp), .int (nI ml), .long md, .long mo, .int mb, .ref a16, .ref a17])), (a0, .inl (cI, 4097, .inl kd)), (a1, .inl (cI, 4097, .inl wd)), (a2, .inl (cI, 4097, .inl sr)), (a3, .inl (cI, 4097, .inl od)), (a4, .inl (cI, 4097, .inl sk))] := hD
        have hw16 : r16 = kb_p (¬ x3 < (-1073741823) ∧ ¬ nI 1073741823 < x3) := hw16
        subst hw16
        refine lv_if_eq (tgt := 37) hx hb dd_M_cut_19 (by decide) (fun c19 => ?_) (fun c19 => ?_)
        · skip
          have c19 : ¬ (¬ x3 < (-1073741823) ∧ ¬ nI 1073741823 < x3) := kb_0.mp c19
          refine lv_iconst (v := nI 0) hx hb dd_M_cut_37 (by decide) ?_
          exact K38 _ H locs (by rw [if_pos c5, if_pos c12, if_neg c19]) hP hD hS
        · skip
          have c19 : ¬ x3 < (-1073741823) ∧ ¬ nI 1073741823 < x3 := kb_1.mp c19
          refine lv_iload hx hb dd_M_cut_22 (lv_at hl 4 rfl) ?_
          refine lv_iconst (v := nI 0) hx hb dd_M_cut_24 (by decide) ?_
          refine lv_bipush (v := nI 7) hx hb dd_M_cut_25 (by decide) ?_
          refine kx_calli (wr := [(o, .inr (0, [.int (nI th), .int (nI cn), .ref a0, .ref a1, .ref a2, .ref a3, .ref a4, .ref a5, .int (nI mn), .ref a6, .ref a7, .int (nI ps), .int (nI bk), .ref a8, .ref a9, .ref a10, .ref a11, .ref a12, .ref a13, .ref a14, .ref a15, .int (nI kf), .int lb, .int (nI lc), .long lo, .int (nI el), .int (nI ec), .long eo, .int eb, .long ed, .int (nI mp), .int (nI ml), .long md, .long mo, .int mb, .ref a16, .ref a17])), (a0, .inl (cI, 4097, .inl kd)), (a1, .inl (cI, 4097, .inl wd)), (a2, .inl (cI, 4097, .inl sr)), (a3, .inl (cI, 4097, .inl od)), (a4, .inl (cI, 4097, .inl sk))]) (va_runS (As := [.int fl, .int (nI 0), .int (nI 7)]) (rest := [.ref o]) ⟨hx, hb, hml, hown, hts⟩ (ct_M_in l D cI cJ cZ H.size fl (nI 0) (nI 7)) ⟨(callB_of 3 hts (kx_good kw_921) rfl rfl rfl (hts _ (kx_m kw_53)) (hts _ (kx_m kw_919)) (by decide +kernel) ⟨Nat.le_of_ble_eq_true rfl, Nat.le_of_ble_eq_true rfl⟩), (hts _ (kx_m kw_920))⟩ (kx_preS hK hN (hP.sub [] kt_6_) (hD.sub [] (by decide) ks_6_)) rfl rfl hl.1 rfl (lv_room (Nat.le_of_ble_eq_true rfl)) dd_M_cut_27 ⟨Nat.le_of_ble_eq_true rfl, Nat.le_of_ble_eq_true rfl⟩) hP hD hS hA [] [0, 1, 2, 3, 4, 5] ks_6_ ks_6_0_1_2_3_4_5 (by decide) (by decide) (fun r27 u27 H locs hw27 hP hD hS => ?_)
          have hP : va_P D vwCl [(o, .inr (0, [.int (nI th), .int (nI cn), .ref a0, .ref a1, .ref a2, .ref a3, .ref a4, .ref a5, .int (nI mn), .ref a6, .ref a7, .int (nI ps), .int (nI bk), .ref a8, .ref a9, .ref a10, .ref a11, .ref a12, .ref a13, .ref a14, .ref a15, .int (nI kf), .int lb, .int (nI lc), .long lo, .int (nI el), .int (nI ec), .long eo, .int eb, .long ed, .int (nI mp), .int (nI ml), .long md, .long mo, .int mb, .ref a16, .ref a17])), (a0, .inl (cI, 4097, .inl kd)), (a1, .inl (cI, 4097, .inl wd)), (a2, .inl (cI, 4097, .inl sr)), (a3, .inl (cI, 4097, .inl od)), (a4, .inl (cI, 4097, .inl sk))] H := hP
          have hD : va_D A [(o, .inr (0, [.int (nI th), .int (nI cn), .ref a0, .ref a1, .ref a2, .ref a3, .ref a4, .ref a5, .int (nI mn), .ref a6, .ref a7, .int (nI ps), .int (nI bk), .ref a8, .ref a9, .ref a10, .ref a11, .ref a12, .ref a13, .ref a14, .ref a15, .int (nI kf), .int lb, .int (nI lc), .long lo, .int (nI el), .int (nI ec), .long eo, .int eb, .long ed, .int (nI mp), .int (nI ml), .long md, .long mo, .int mb, .ref a16, .ref a17])), (a0, .inl (cI, 4097, .inl kd)), (a1, .inl (cI, 4097, .inl wd)), (a2, .inl (cI, 4097, .inl sr)), (a3, .inl (cI, 4097, .inl od)), (a4, .inl (cI, 4097, .inl sk))] := hD
          have hw27 : r27 = kb_p (¬ fl < (nI 0) ∧ ¬ (nI 7) < fl) := hw27
          subst hw27
          refine lv_if_eq (tgt := 37) hx hb dd_M_cut_30 (by decide) (fun c30 => ?_) (fun c30 => ?_)
          · skip
            have c30 : ¬ (¬ fl < (nI 0) ∧ ¬ (nI 7) < fl) := kb_0.mp c30
            refine lv_iconst (v := nI 0) hx hb dd_M_cut_37 (by decide) ?_
            exact K38 _ H locs (by rw [if_pos c5, if_pos c12, if_pos c19, if_neg c30]) hP hD hS
          · skip
            have c30 : ¬ fl < (nI 0) ∧ ¬ (nI 7) < fl := kb_1.mp c30
            refine lv_iconst (v := nI 1) hx hb dd_M_cut_33 (by decide) ?_
            refine lv_goto (tgt := 38) hx hb dd_M_cut_34 (by decide) ?_
            exact K38 _ H locs (by rw [if_pos c5, if_pos c12, if_pos c19, if_pos c30]) hP hD hS

theorem dd_M_penalty_0 : decode bb_M_penalty 0 = .ok (.aload_n 0, 1) := by decide +kernel
theorem dd_M_penalty_1 : decode bb_M_penalty 1 = .ok (.iconst 1, 1) := by decide +kernel
theorem dd_M_penalty_2 : decode bb_M_penalty 2 = .ok (.iconst 3, 1) := by decide +kernel
theorem dd_M_penalty_3 : decode bb_M_penalty 3 = .ok (.iload_n 1, 1) := by decide +kernel
theorem dd_M_penalty_4 : decode bb_M_penalty 4 = .ok (.sipush (-10000), 3) := by decide +kernel
theorem dd_M_penalty_7 : decode bb_M_penalty 7 = .ok (.if_icmp .ge (9), 3) := by decide +kernel
theorem dd_M_penalty_10 : decode bb_M_penalty 10 = .ok (.sipush (-10000), 3) := by decide +kernel
theorem dd_M_penalty_13 : decode bb_M_penalty 13 = .ok (.goto (17), 3) := by decide +kernel
theorem dd_M_penalty_16 : decode bb_M_penalty 16 = .ok (.iload_n 1, 1) := by decide +kernel
theorem dd_M_penalty_17 : decode bb_M_penalty 17 = .ok (.sipush (10000), 3) := by decide +kernel
theorem dd_M_penalty_20 : decode bb_M_penalty 20 = .ok (.if_icmp .le (9), 3) := by decide +kernel
theorem dd_M_penalty_23 : decode bb_M_penalty 23 = .ok (.sipush (10000), 3) := by decide +kernel
theorem dd_M_penalty_26 : decode bb_M_penalty 26 = .ok (.goto (4), 3) := by decide +kernel
theorem dd_M_penalty_29 : decode bb_M_penalty 29 = .ok (.iload_n 1, 1) := by decide +kernel
theorem dd_M_penalty_30 : decode bb_M_penalty 30 = .ok (.iconst 0, 1) := by decide +kernel
theorem dd_M_penalty_31 : decode bb_M_penalty 31 = .ok (.iconst 0, 1) := by decide +kernel
theorem dd_M_penalty_32 : decode bb_M_penalty 32 = .ok (.iconst 0, 1) := by decide +kernel
theorem dd_M_penalty_33 : decode bb_M_penalty 33 = .ok (.invokevirtual 88, 3) := by decide +kernel
theorem dd_M_penalty_36 : decode bb_M_penalty 36 = .ok (.ireturn, 1) := by decide +kernel

set_option maxHeartbeats 4000000 in
set_option maxRecDepth 100000 in
theorem ct_M_penalty (l : Launch) (D : va_G) (cI cJ cZ : ClassId) (sz : Nat) (o : Nat) (th : Nat) (cn : Nat) (a0 : Nat) (a1 : Nat) (a2 : Nat) (a3 : Nat) (a4 : Nat) (a5 : Nat) (mn : Nat) (a6 : Nat) (a7 : Nat) (ps : Nat) (bk : Nat) (a8 : Nat) (a9 : Nat) (a10 : Nat) (a11 : Nat) (a12 : Nat) (a13 : Nat) (a14 : Nat) (a15 : Nat) (kf : Nat) (lb : Int32) (lc : Nat) (lo : Int64) (el : Nat) (ec : Nat) (eo : Int64) (eb : Int32) (ed : Int64) (mp : Nat) (ml : Nat) (md : Int64) (mo : Int64) (mb : Int32) (a16 : Nat) (a17 : Nat) (kd : Nat → Int32) (wd : Nat → Int32) (sr : Nat → Int32) (od : Nat → Int32) (sk : Nat → Int32) (x1 : Int32) (hcn : cn ≤ 4096) : kx_Mi l yy_M_penalty ww_M_penalty ({ frames := 1, cells := 0, slots := 0, locals := 26 }) D vwCl (kx_ty cI cJ cZ) [.ref o, .int x1] [(o, .inr (0, [.int (nI th), .int (nI cn), .ref a0, .ref a1, .ref a2, .ref a3, .ref a4, .ref a5, .int (nI mn), .ref a6, .ref a7, .int (nI ps), .int (nI bk), .ref a8, .ref a9, .ref a10, .ref a11, .ref a12, .ref a13, .ref a14, .ref a15, .int (nI kf), .int lb, .int (nI lc), .long lo, .int (nI el), .int (nI ec), .long eo, .int eb, .long ed, .int (nI mp), .int (nI ml), .long md, .long mo, .int mb, .ref a16, .ref a17])), (a0, .inl (cI, 4097, .inl kd)), (a1, .inl (cI, 4097, .inl wd)), (a2, .inl (cI, 4097, .inl sr)), (a3, .inl (cI, 4097, .inl od)), (a4, .inl (cI, 4097, .inl sk))] sz (fun (r : Int32) (u : Nat × (Nat → Int32) × (Nat → Int32) × (Nat → Int32) × (Nat → Int32) × (Nat → Int32)) => (if ¬ (True) ∨ cn = 4096 then r = (-1) ∧ u.1 = cn ∧ u.2.1 = kd ∧ u.2.2.1 = wd ∧ u.2.2.2.1 = sr ∧ u.2.2.2.2.1 = od ∧ u.2.2.2.2.2 = sk else r = nI cn ∧ u.1 = cn + 1 ∧ u.2.1 = upd kd cn (nI 3) ∧ u.2.2.1 = upd wd cn (pm_pp x1) ∧ u.2.2.2.1 = upd sr cn (nI 0) ∧ u.2.2.2.2.1 = upd od cn (nI 0) ∧ u.2.2.2.2.2 = upd sk cn (nI 0))) (fun (u : Nat × (Nat → Int32) × (Nat → Int32) × (Nat → Int32) × (Nat → Int32) × (Nat → Int32)) => [(o, .inr (0, [.int (nI 0), .int (nI u.1), .ref a0, .ref a1, .ref a2, .ref a3, .ref a4, .ref a5, .int (nI mn), .ref a6, .ref a7, .int (nI ps), .int (nI bk), .ref a8, .ref a9, .ref a10, .ref a11, .ref a12, .ref a13, .ref a14, .ref a15, .int (nI kf), .int lb, .int (nI lc), .long lo, .int (nI el), .int (nI ec), .long eo, .int eb, .long ed, .int (nI mp), .int (nI ml), .long md, .long mo, .int mb, .ref a16, .ref a17])), (a0, .inl (cI, 4097, .inl u.2.1)), (a1, .inl (cI, 4097, .inl u.2.2.1)), (a2, .inl (cI, 4097, .inl u.2.2.2.1)), (a3, .inl (cI, 4097, .inl u.2.2.2.2.1)), (a4, .inl (cI, 4097, .inl u.2.2.2.2.2))]) 0 0 := by
  refine kx_starti (by decide) rfl (Nat.le_of_ble_eq_true rfl) ?_
  intro p e s m below meth c A ls hx hb hr hml hts hown hlocks hin hP hK hN hD hA hS hl
  have hl : lv_has ls 2 [(0, .ref o), (1, .int x1)] := hl
  have hown : s.vm.findClass rr_M = some m.cls := hown
  obtain ⟨H, hH⟩ : ∃ H, H = s.heap := ⟨_, rfl⟩
  obtain ⟨locs, hlocs⟩ : ∃ z : List Loc, z = [] := ⟨_, rfl⟩
  have hP : va_P D vwCl [(o, .inr (0, [.int (nI th), .int (nI cn), .ref a0, .ref a1, .ref a2, .ref a3, .ref a4, .ref a5, .int (nI mn), .ref a6, .ref a7, .int (nI ps), .int (nI bk), .ref a8, .ref a9, .ref a10, .ref a11, .ref a12, .ref a13, .ref a14, .ref a15, .int (nI kf), .int lb, .int (nI lc), .long lo, .int (nI el), .int (nI ec), .long eo, .int eb, .long ed, .int (nI mp), .int (nI ml), .long md, .long mo, .int mb, .ref a16, .ref a17])), (a0, .inl (cI, 4097, .inl kd)), (a1, .inl (cI, 4097, .inl wd)), (a2, .inl (cI, 4097, .inl sr)), (a3, .inl (cI, 4097, .inl od)), (a4, .inl (cI, 4097, .inl sk))] H := by rw [hH]; exact hP
  have hS : va_S A s.heap H locs := by rw [hH, hlocs]; exact hS
  refine kx_gen hH hlocs ?_
  clear hH hlocs
  refine kx_nameQ (fun Q hQ => ?_)
  refine lv_aload_n hx hb dd_M_penalty_0 rfl (lv_at hl 0 rfl) ?_
  refine lv_iconst (v := nI 1) hx hb dd_M_penalty_1 (by decide) ?_
  refine lv_iconst (v := nI 3) hx hb dd_M_penalty_2 (by decide) ?_
  refine lv_iload_n hx hb dd_M_penalty_3 rfl (lv_at hl 1 rfl) ?_
  refine lv_sipush (v := (-10000)) hx hb dd_M_penalty_4 (by decide) ?_
  refine kx_joini (D := D) (cl := vwCl) (A := A) (ws := [(o, .inr (0, [.int (nI th), .int (nI cn), .ref a0, .ref a1, .ref a2, .ref a3, .ref a4, .ref a5, .int (nI mn), .ref a6, .ref a7, .int (nI ps), .int (nI bk), .ref a8, .ref a9, .ref a10, .ref a11, .ref a12, .ref a13, .ref a14, .ref a15, .int (nI kf), .int lb, .int (nI lc), .long lo, .int (nI el), .int (nI ec), .long eo, .int eb, .long ed, .int (nI mp), .int (nI ml), .long md, .long mo, .int mb, .ref a16, .ref a17])), (a0, .inl (cI, 4097, .inl kd)), (a1, .inl (cI, 4097, .inl wd)), (a2, .inl (cI, 4097, .inl sr)), (a3, .inl (cI, 4097, .inl od)), (a4, .inl (cI, 4097, .inl sk))]) (Y := 30) (ls1 := ls) (st1 := [.int (nI 3), .int (nI 1), .ref o]) (if (-10000) ≤ x1 then (if x1 ≤ (nI 10000) then x1 else (nI 10000)) else (-10000)) (fun v30 H locs e_v30 hP hD hS => ?_) (fun K30 => ?_)
  · skip
    obtain rfl : v30 = pm_pp x1 := by rw [e_v30]; rfl
    refine lv_iconst (v := nI 0) hx hb dd_M_penalty_30 (by decide) ?_
    refine lv_iconst (v := nI 0) hx hb dd_M_penalty_31 (by decide) ?_
    refine lv_iconst (v := nI 0) hx hb dd_M_penalty_32 (by decide) ?_
    refine kx_calli (wr := []) (va_runV (C := rr_M) (As := [.int (nI 1), .int (nI 3), .int (pm_pp x1), .int (nI 0), .int (nI 0), .int (nI 0)]) (rest := []) ⟨hx, hb, hml, hown, hts⟩ (ct_M_add l D cI cJ cZ H.size o th cn a0 a1 a2 a3 a4 a5 mn a6 a7 ps bk a8 a9 a10 a11 a12 a13 a14 a15 kf lb lc lo el ec eo eb ed mp ml md mo mb a16 a17 kd wd sr od sk (nI 1) (nI 3) (pm_pp x1) (nI 0) (nI 0) (nI 0) (by omega)) ⟨(callB_of 6 hts (kx_good kw_942) rfl rfl rfl (hts _ (kx_m kw_53)) (hts _ (kx_m kw_939)) (by decide +kernel) ⟨Nat.le_of_ble_eq_true rfl, Nat.le_of_ble_eq_true rfl⟩), (hts _ (kx_m kw_941)), (hts _ (kx_m kw_23))⟩ (kx_preV (ci := 0) (q0 := 0) hK hN (hP.sub [0, 1, 2, 3, 4, 5] kt_6_0_1_2_3_4_5) (hD.sub [0, 1, 2, 3, 4, 5] (by decide) ks_6_0_1_2_3_4_5) rfl kg_6_0) rfl rfl hl.1 rfl (lv_room (Nat.le_of_ble_eq_true rfl)) dd_M_penalty_33 ⟨Nat.le_of_ble_eq_true rfl, Nat.le_of_ble_eq_true rfl⟩) hP hD hS hA [0, 1, 2, 3, 4, 5] [] ks_6_0_1_2_3_4_5 ks_6_ (by decide) (by decide) (fun r33 u33 H locs hw33 hP hD hS => ?_)
    obtain ⟨cn2_33, kd2_33, wd2_33, sr2_33, od2_33, sk2_33⟩ := u33
    have hP : va_P D vwCl [(o, .inr (0, [.int (nI 0), .int (nI cn2_33), .ref a0, .ref a1, .ref a2, .ref a3, .ref a4, .ref a5, .int (nI mn), .ref a6, .ref a7, .int (nI ps), .int (nI bk), .ref a8, .ref a9, .ref a10, .ref a11, .ref a12, .ref a13, .ref a14, .ref a15, .int (nI kf), .int lb, .int (nI lc), .long lo, .int (nI el), .int (nI ec), .long eo, .int eb, .long ed, .int (nI mp), .int (nI ml), .long md, .long mo, .int mb, .ref a16, .ref a17])), (a0, .inl (cI, 4097, .inl kd2_33)), (a1, .inl (cI, 4097, .inl wd2_33)), (a2, .inl (cI, 4097, .inl sr2_33)), (a3, .inl (cI, 4097, .inl od2_33)), (a4, .inl (cI, 4097, .inl sk2_33))] H := hP
    have hD : va_D A [(o, .inr (0, [.int (nI 0), .int (nI cn2_33), .ref a0, .ref a1, .ref a2, .ref a3, .ref a4, .ref a5, .int (nI mn), .ref a6, .ref a7, .int (nI ps), .int (nI bk), .ref a8, .ref a9, .ref a10, .ref a11, .ref a12, .ref a13, .ref a14, .ref a15, .int (nI kf), .int lb, .int (nI lc), .long lo, .int (nI el), .int (nI ec), .long eo, .int eb, .long ed, .int (nI mp), .int (nI ml), .long md, .long mo, .int mb, .ref a16, .ref a17])), (a0, .inl (cI, 4097, .inl kd2_33)), (a1, .inl (cI, 4097, .inl wd2_33)), (a2, .inl (cI, 4097, .inl sr2_33)), (a3, .inl (cI, 4097, .inl od2_33)), (a4, .inl (cI, 4097, .inl sk2_33))] := hD
    have hw33 : (if (nI 1) = 0 ∨ cn = 4096 then r33 = (-1) ∧ cn2_33 = cn ∧ kd2_33 = kd ∧ wd2_33 = wd ∧ sr2_33 = sr ∧ od2_33 = od ∧ sk2_33 = sk else r33 = nI cn ∧ cn2_33 = cn + 1 ∧ kd2_33 = upd kd cn (nI 3) ∧ wd2_33 = upd wd cn (pm_pp x1) ∧ sr2_33 = upd sr cn (nI 0) ∧ od2_33 = upd od cn (nI 0) ∧ sk2_33 = upd sk cn (nI 0)) := hw33
    rw [hQ]
    exact kx_iret hx hb hr hlocks hK hN hS dd_M_penalty_36 (cn2_33, kd2_33, wd2_33, sr2_33, od2_33, sk2_33) hP hD (by simpa only [show (nI 1 = 0) = False from eq_false (by decide), not_true, false_or] using hw33)
  · skip
    refine lv_icmp_ge (tgt := 16) hx hb dd_M_penalty_7 (by decide) (fun c7 => ?_) (fun c7 => ?_)
    · skip
      refine lv_iload_n hx hb dd_M_penalty_16 rfl (lv_at hl 1 rfl) ?_
      refine lv_sipush (v := nI 10000) hx hb dd_M_penalty_17 (by decide) ?_
      refine lv_icmp_le (tgt := 29) hx hb dd_M_penalty_20 (by decide) (fun c20 => ?_) (fun c20 => ?_)
      · skip
        refine lv_iload_n hx hb dd_M_penalty_29 rfl (lv_at hl 1 rfl) ?_
        exact K30 _ H locs (by rw [if_pos c7, if_pos c20]) hP hD hS
      · skip
        refine lv_sipush (v := nI 10000) hx hb dd_M_penalty_23 (by decide) ?_
        refine lv_goto (tgt := 30) hx hb dd_M_penalty_26 (by decide) ?_
        exact K30 _ H locs (by rw [if_pos c7, if_neg c20]) hP hD hS
    · skip
      refine lv_sipush (v := (-10000)) hx hb dd_M_penalty_10 (by decide) ?_
      refine lv_goto (tgt := 30) hx hb dd_M_penalty_13 (by decide) ?_
      exact K30 _ H locs (by rw [if_neg c7]) hP hD hS

theorem dd_M_clear_0 : decode bb_M_clear 0 = .ok (.aload_n 0, 1) := by decide +kernel
theorem dd_M_clear_1 : decode bb_M_clear 1 = .ok (.iconst 0, 1) := by decide +kernel
theorem dd_M_clear_2 : decode bb_M_clear 2 = .ok (.putfield 71, 3) := by decide +kernel
theorem dd_M_clear_5 : decode bb_M_clear 5 = .ok (.aload_n 0, 1) := by decide +kernel
theorem dd_M_clear_6 : decode bb_M_clear 6 = .ok (.iconst 0, 1) := by decide +kernel
theorem dd_M_clear_7 : decode bb_M_clear 7 = .ok (.putfield 85, 3) := by decide +kernel
theorem dd_M_clear_10 : decode bb_M_clear 10 = .ok (.return_, 1) := by decide +kernel

set_option maxHeartbeats 4000000 in
set_option maxRecDepth 100000 in
theorem ct_M_clear (l : Launch) (D : va_G) (cI cJ cZ : ClassId) (sz : Nat) (o : Nat) (th : Nat) (cn : Nat) (a0 : Nat) (a1 : Nat) (a2 : Nat) (a3 : Nat) (a4 : Nat) (a5 : Nat) (mn : Nat) (a6 : Nat) (a7 : Nat) (ps : Nat) (bk : Nat) (a8 : Nat) (a9 : Nat) (a10 : Nat) (a11 : Nat) (a12 : Nat) (a13 : Nat) (a14 : Nat) (a15 : Nat) (kf : Nat) (lb : Int32) (lc : Nat) (lo : Int64) (el : Nat) (ec : Nat) (eo : Int64) (eb : Int32) (ed : Int64) (mp : Nat) (ml : Nat) (md : Int64) (mo : Int64) (mb : Int32) (a16 : Nat) (a17 : Nat) : kx_Mv l yy_M_clear ww_M_clear ({ frames := 0, cells := 0, slots := 0, locals := 0 }) D vwCl (kx_ty cI cJ cZ) [.ref o] [(o, .inr (0, [.int (nI th), .int (nI cn), .ref a0, .ref a1, .ref a2, .ref a3, .ref a4, .ref a5, .int (nI mn), .ref a6, .ref a7, .int (nI ps), .int (nI bk), .ref a8, .ref a9, .ref a10, .ref a11, .ref a12, .ref a13, .ref a14, .ref a15, .int (nI kf), .int lb, .int (nI lc), .long lo, .int (nI el), .int (nI ec), .long eo, .int eb, .long ed, .int (nI mp), .int (nI ml), .long md, .long mo, .int mb, .ref a16, .ref a17]))] sz (fun (u : Unit) => True) (fun (u : Unit) => [(o, .inr (0, [.int (nI 0), .int (nI 0), .ref a0, .ref a1, .ref a2, .ref a3, .ref a4, .ref a5, .int (nI mn), .ref a6, .ref a7, .int (nI ps), .int (nI bk), .ref a8, .ref a9, .ref a10, .ref a11, .ref a12, .ref a13, .ref a14, .ref a15, .int (nI kf), .int lb, .int (nI lc), .long lo, .int (nI el), .int (nI ec), .long eo, .int eb, .long ed, .int (nI mp), .int (nI ml), .long md, .long mo, .int mb, .ref a16, .ref a17]))]) 0 0 := by
  refine kx_startv (by decide) rfl (Nat.le_of_ble_eq_true rfl) ?_
  intro p e s m below meth c A ls hx hb hr hml hts hown hlocks hin hP hK hN hD hA hS hl
  have hl : lv_has ls 1 [(0, .ref o)] := hl
  have hown : s.vm.findClass rr_M = some m.cls := hown
  have lk0 := hts _ (kx_m kw_798)
  have hin0 : ∀ w ∈ u_ws rr_M tt_M 37, w ∈ ww_M_clear := fun w h => kx_m (kf_M w h)
  have lk2 := hts _ (kx_m kw_799)
  obtain ⟨H, hH⟩ : ∃ H, H = s.heap := ⟨_, rfl⟩
  obtain ⟨locs, hlocs⟩ : ∃ z : List Loc, z = [] := ⟨_, rfl⟩
  have hP : va_P D vwCl [(o, .inr (0, [.int (nI th), .int (nI cn), .ref a0, .ref a1, .ref a2, .ref a3, .ref a4, .ref a5, .int (nI mn), .ref a6, .ref a7, .int (nI ps), .int (nI bk), .ref a8, .ref a9, .ref a10, .ref a11, .ref a12, .ref a13, .ref a14, .ref a15, .int (nI kf), .int lb, .int (nI lc), .long lo, .int (nI el), .int (nI ec), .long eo, .int eb, .long ed, .int (nI mp), .int (nI ml), .long md, .long mo, .int mb, .ref a16, .ref a17]))] H := by rw [hH]; exact hP
  have hS : va_S A s.heap H locs := by rw [hH, hlocs]; exact hS
  refine kx_gen hH hlocs ?_
  clear hH hlocs
  refine kx_nameQ (fun Q hQ => ?_)
  refine lv_aload_n hx hb dd_M_clear_0 rfl (lv_at hl 0 rfl) ?_
  refine lv_iconst (v := nI 0) hx hb dd_M_clear_1 (by decide) ?_
  refine va_put (D := D) (ci := 0) (v := .int (nI 0)) (ty := .int) (C := rr_M) (T := tt_M) (N := 37) hx hb hts hin0 ft_M ft_M_ok nn_M hown hK hP hD hS 0 kg_1_0 rfl 0 (by decide) lk0 (fun _ h9 => h9) rfl (by decide +kernel) rfl rfl (Nat.le_of_ble_eq_true rfl) dd_M_clear_2 (fun H locs hP hD hS => ?_)
  have hP : va_P D vwCl [(o, .inr (0, [.int (nI 0), .int (nI cn), .ref a0, .ref a1, .ref a2, .ref a3, .ref a4, .ref a5, .int (nI mn), .ref a6, .ref a7, .int (nI ps), .int (nI bk), .ref a8, .ref a9, .ref a10, .ref a11, .ref a12, .ref a13, .ref a14, .ref a15, .int (nI kf), .int lb, .int (nI lc), .long lo, .int (nI el), .int (nI ec), .long eo, .int eb, .long ed, .int (nI mp), .int (nI ml), .long md, .long mo, .int mb, .ref a16, .ref a17]))] H := kx_cP kz_1_0 hP
  have hD : va_D A [(o, .inr (0, [.int (nI 0), .int (nI cn), .ref a0, .ref a1, .ref a2, .ref a3, .ref a4, .ref a5, .int (nI mn), .ref a6, .ref a7, .int (nI ps), .int (nI bk), .ref a8, .ref a9, .ref a10, .ref a11, .ref a12, .ref a13, .ref a14, .ref a15, .int (nI kf), .int lb, .int (nI lc), .long lo, .int (nI el), .int (nI ec), .long eo, .int eb, .long ed, .int (nI mp), .int (nI ml), .long md, .long mo, .int mb, .ref a16, .ref a17]))] := kx_cD kz_1_0 hD
  refine lv_aload_n hx hb dd_M_clear_5 rfl (lv_at hl 0 rfl) ?_
  refine lv_iconst (v := nI 0) hx hb dd_M_clear_6 (by decide) ?_
  refine va_put (D := D) (ci := 0) (v := .int (nI 0)) (ty := .int) (C := rr_M) (T := tt_M) (N := 37) hx hb hts hin0 ft_M ft_M_ok nn_M hown hK hP hD hS 0 kg_1_0 rfl 1 (by decide) lk2 (fun _ h9 => h9) rfl (by decide +kernel) rfl rfl (Nat.le_of_ble_eq_true rfl) dd_M_clear_7 (fun H locs hP hD hS => ?_)
  have hP : va_P D vwCl [(o, .inr (0, [.int (nI 0), .int (nI 0), .ref a0, .ref a1, .ref a2, .ref a3, .ref a4, .ref a5, .int (nI mn), .ref a6, .ref a7, .int (nI ps), .int (nI bk), .ref a8, .ref a9, .ref a10, .ref a11, .ref a12, .ref a13, .ref a14, .ref a15, .int (nI kf), .int lb, .int (nI lc), .long lo, .int (nI el), .int (nI ec), .long eo, .int eb, .long ed, .int (nI mp), .int (nI ml), .long md, .long mo, .int mb, .ref a16, .ref a17]))] H := kx_cP kz_1_0 hP
  have hD : va_D A [(o, .inr (0, [.int (nI 0), .int (nI 0), .ref a0, .ref a1, .ref a2, .ref a3, .ref a4, .ref a5, .int (nI mn), .ref a6, .ref a7, .int (nI ps), .int (nI bk), .ref a8, .ref a9, .ref a10, .ref a11, .ref a12, .ref a13, .ref a14, .ref a15, .int (nI kf), .int lb, .int (nI lc), .long lo, .int (nI el), .int (nI ec), .long eo, .int eb, .long ed, .int (nI mp), .int (nI ml), .long md, .long mo, .int mb, .ref a16, .ref a17]))] := kx_cD kz_1_0 hD
  rw [hQ]
  exact kx_vret hx hb hr hlocks hK hN hS dd_M_clear_10 () hP hD trivial

theorem dd_M_line_0 : decode bb_M_line 0 = .ok (.aload_n 0, 1) := by decide +kernel
theorem dd_M_line_1 : decode bb_M_line 1 = .ok (.iload_n 1, 1) := by decide +kernel
theorem dd_M_line_2 : decode bb_M_line 2 = .ok (.iconst 1, 1) := by decide +kernel
theorem dd_M_line_3 : decode bb_M_line 3 = .ok (.aload_n 0, 1) := by decide +kernel
theorem dd_M_line_4 : decode bb_M_line 4 = .ok (.getfield 206, 3) := by decide +kernel
theorem dd_M_line_7 : decode bb_M_line 7 = .ok (.invokestatic 76, 3) := by decide +kernel
theorem dd_M_line_10 : decode bb_M_line 10 = .ok (.ifCond .eq (16), 3) := by decide +kernel
theorem dd_M_line_13 : decode bb_M_line 13 = .ok (.iload_n 2, 1) := by decide +kernel
theorem dd_M_line_14 : decode bb_M_line 14 = .ok (.iconst 0, 1) := by decide +kernel
theorem dd_M_line_15 : decode bb_M_line 15 = .ok (.iconst 4, 1) := by decide +kernel
theorem dd_M_line_16 : decode bb_M_line 16 = .ok (.invokestatic 76, 3) := by decide +kernel
theorem dd_M_line_19 : decode bb_M_line 19 = .ok (.ifCond .eq (7), 3) := by decide +kernel
theorem dd_M_line_22 : decode bb_M_line 22 = .ok (.iconst 0, 1) := by decide +kernel
theorem dd_M_line_23 : decode bb_M_line 23 = .ok (.goto (4), 3) := by decide +kernel
theorem dd_M_line_26 : decode bb_M_line 26 = .ok (.iconst 1, 1) := by decide +kernel
theorem dd_M_line_27 : decode bb_M_line 27 = .ok (.putfield 71, 3) := by decide +kernel
theorem dd_M_line_30 : decode bb_M_line 30 = .ok (.aload_n 0, 1) := by decide +kernel
theorem dd_M_line_31 : decode bb_M_line 31 = .ok (.getfield 71, 3) := by decide +kernel
theorem dd_M_line_34 : decode bb_M_line 34 = .ok (.ifCond .le (5), 3) := by decide +kernel
theorem dd_M_line_37 : decode bb_M_line 37 = .ok (.iconst 0, 1) := by decide +kernel
theorem dd_M_line_38 : decode bb_M_line 38 = .ok (.ireturn, 1) := by decide +kernel
theorem dd_M_line_39 : decode bb_M_line 39 = .ok (.aload_n 0, 1) := by decide +kernel
theorem dd_M_line_40 : decode bb_M_line 40 = .ok (.getfield 68, 3) := by decide +kernel
theorem dd_M_line_43 : decode bb_M_line 43 = .ok (.iload_n 1, 1) := by decide +kernel
theorem dd_M_line_44 : decode bb_M_line 44 = .ok (.laload, 1) := by decide +kernel
theorem dd_M_line_45 : decode bb_M_line 45 = .ok (.lstore_n 3, 1) := by decide +kernel
theorem dd_M_line_46 : decode bb_M_line 46 = .ok (.iload_n 2, 1) := by decide +kernel
theorem dd_M_line_47 : decode bb_M_line 47 = .ok (.iconst 4, 1) := by decide +kernel
theorem dd_M_line_48 : decode bb_M_line 48 = .ok (.if_icmp .ge (18), 3) := by decide +kernel
theorem dd_M_line_51 : decode bb_M_line 51 = .ok (.aload_n 0, 1) := by decide +kernel
theorem dd_M_line_52 : decode bb_M_line 52 = .ok (.getfield 65, 3) := by decide +kernel
theorem dd_M_line_55 : decode bb_M_line 55 = .ok (.iconst 4, 1) := by decide +kernel
theorem dd_M_line_56 : decode bb_M_line 56 = .ok (.iload_n 1, 1) := by decide +kernel
theorem dd_M_line_57 : decode bb_M_line 57 = .ok (.imul, 1) := by decide +kernel
theorem dd_M_line_58 : decode bb_M_line 58 = .ok (.iconst 4, 1) := by decide +kernel
theorem dd_M_line_59 : decode bb_M_line 59 = .ok (.isub, 1) := by decide +kernel
theorem dd_M_line_60 : decode bb_M_line 60 = .ok (.iload_n 2, 1) := by decide +kernel
theorem dd_M_line_61 : decode bb_M_line 61 = .ok (.iadd, 1) := by decide +kernel
theorem dd_M_line_62 : decode bb_M_line 62 = .ok (.iaload, 1) := by decide +kernel
theorem dd_M_line_63 : decode bb_M_line 63 = .ok (.goto (18), 3) := by decide +kernel
theorem dd_M_line_66 : decode bb_M_line 66 = .ok (.lload_n 3, 1) := by decide +kernel
theorem dd_M_line_67 : decode bb_M_line 67 = .ok (.ldc2_w 224, 3) := by decide +kernel
theorem dd_M_line_70 : decode bb_M_line 70 = .ok (.lcmp, 1) := by decide +kernel
theorem dd_M_line_71 : decode bb_M_line 71 = .ok (.ifCond .le (8), 3) := by decide +kernel
theorem dd_M_line_74 : decode bb_M_line 74 = .ok (.ldc 226, 2) := by decide +kernel
theorem dd_M_line_76 : decode bb_M_line 76 = .ok (.goto (5), 3) := by decide +kernel
theorem dd_M_line_79 : decode bb_M_line 79 = .ok (.lload_n 3, 1) := by decide +kernel
theorem dd_M_line_80 : decode bb_M_line 80 = .ok (.l2i, 1) := by decide +kernel
theorem dd_M_line_81 : decode bb_M_line 81 = .ok (.ireturn, 1) := by decide +kernel

set_option maxHeartbeats 4000000 in
set_option maxRecDepth 100000 in
theorem ct_M_line (l : Launch) (D : va_G) (cI cJ cZ : ClassId) (sz : Nat) (o : Nat) (th : Nat) (cn : Nat) (a0 : Nat) (a1 : Nat) (a2 : Nat) (a3 : Nat) (a4 : Nat) (a5 : Nat) (mn : Nat) (a6 : Nat) (a7 : Nat) (ps : Nat) (bk : Nat) (a8 : Nat) (a9 : Nat) (a10 : Nat) (a11 : Nat) (a12 : Nat) (a13 : Nat) (a14 : Nat) (a15 : Nat) (kf : Nat) (lb : Int32) (lc : Nat) (lo : Int64) (el : Nat) (ec : Nat) (eo : Int64) (eb : Int32) (ed : Int64) (mp : Nat) (ml : Nat) (md : Int64) (mo : Int64) (mb : Int32) (a16 : Nat) (a17 : Nat) (mr : Nat → Int32) (mq : Nat → Int64) (k : Int32) (w : Int32) (hml : ml ≤ 400) : kx_Mi l yy_M_line ww_M_line ({ frames := 1, cells := 0, slots := 0, locals := 22 }) D vwCl (kx_ty cI cJ cZ) [.ref o, .int k, .int w] [(o, .inr (0, [.int (nI th), .int (nI cn), .ref a0, .ref a1, .ref a2, .ref a3, .ref a4, .ref a5, .int (nI mn), .ref a6, .ref a7, .int (nI ps), .int (nI bk), .ref a8, .ref a9, .ref a10, .ref a11, .ref a12, .ref a13, .ref a14, .ref a15, .int (nI kf), .int lb, .int (nI lc), .long lo, .int (nI el), .int (nI ec), .long eo, .int eb, .long ed, .int (nI mp), .int (nI ml), .long md, .long mo, .int mb, .ref a16, .ref a17])), (a16, .inl (cI, 1612, .inl mr)), (a17, .inl (cJ, 403, .inr (.inl mq)))] sz (fun (r : Int32) (u : Nat) => (r = pm_li ml mr mq k w) ∧ (u = pm_lt ml k w)) (fun (u : Nat) => [(o, .inr (0, [.int (nI u), .int (nI cn), .ref a0, .ref a1, .ref a2, .ref a3, .ref a4, .ref a5, .int (nI mn), .ref a6, .ref a7, .int (nI ps), .int (nI bk), .ref a8, .ref a9, .ref a10, .ref a11, .ref a12, .ref a13, .ref a14, .ref a15, .int (nI kf), .int lb, .int (nI lc), .long lo, .int (nI el), .int (nI ec), .long eo, .int eb, .long ed, .int (nI mp), .int (nI ml), .long md, .long mo, .int mb, .ref a16, .ref a17])), (a16, .inl (cI, 1612, .inl mr)), (a17, .inl (cJ, 403, .inr (.inl mq)))]) 0 0 := by
  refine kx_starti (by decide) rfl (Nat.le_of_ble_eq_true rfl) ?_
  intro p e s m below meth c A ls hx hb hr hml hts hown hlocks hin hP hK hN hD hA hS hl
  have hl : lv_has ls 5 [(0, .ref o), (1, .int k), (2, .int w)] := hl
  have hown : s.vm.findClass rr_M = some m.cls := hown
  have lk0 := hts _ (kx_m kw_829)
  have hin0 : ∀ w ∈ u_ws rr_M tt_M 37, w ∈ ww_M_line := fun w h => kx_m (kf_M w h)
  have lk2 := hts _ (kx_m kw_798)
  have lk3 := hts _ (kx_m kw_834)
  have lk4 := hts _ (kx_m kw_1057)
  have lk5 := hts _ (kx_m kw_1058)
  have lk6 := hts _ (kx_m kw_833)
  obtain ⟨H, hH⟩ : ∃ H, H = s.heap := ⟨_, rfl⟩
  obtain ⟨locs, hlocs⟩ : ∃ z : List Loc, z = [] := ⟨_, rfl⟩
  have hP : va_P D vwCl [(o, .inr (0, [.int (nI th), .int (nI cn), .ref a0, .ref a1, .ref a2, .ref a3, .ref a4, .ref a5, .int (nI mn), .ref a6, .ref a7, .int (nI ps), .int (nI bk), .ref a8, .ref a9, .ref a10, .ref a11, .ref a12, .ref a13, .ref a14, .ref a15, .int (nI kf), .int lb, .int (nI lc), .long lo, .int (nI el), .int (nI ec), .long eo, .int eb, .long ed, .int (nI mp), .int (nI ml), .long md, .long mo, .int mb, .ref a16, .ref a17])), (a16, .inl (cI, 1612, .inl mr)), (a17, .inl (cJ, 403, .inr (.inl mq)))] H := by rw [hH]; exact hP
  have hS : va_S A s.heap H locs := by rw [hH, hlocs]; exact hS
  refine kx_gen hH hlocs ?_
  clear hH hlocs
  refine kx_nameQ (fun Q hQ => ?_)
  refine lv_aload_n hx hb dd_M_line_0 rfl (lv_at hl 0 rfl) ?_
  refine lv_iload_n hx hb dd_M_line_1 rfl (lv_at hl 1 rfl) ?_
  refine lv_iconst (v := nI 1) hx hb dd_M_line_2 (by decide) ?_
  refine lv_aload_n hx hb dd_M_line_3 rfl (lv_at hl 0 rfl) ?_
  refine va_get (D := D) (ci := 0) (v := .int (nI ml)) (C := rr_M) (T := tt_M) (N := 37) hx hb hts hin0 hown hK hP 0 kg_3_0 rfl 31 (by decide) lk0 (fun _ h9 => h9) rfl dd_M_line_4 ?_
  refine kx_calli (wr := [(o, .inr (0, [.int (nI th), .int (nI cn), .ref a0, .ref a1, .ref a2, .ref a3, .ref a4, .ref a5, .int (nI mn), .ref a6, .ref a7, .int (nI ps), .int (nI bk), .ref a8, .ref a9, .ref a10, .ref a11, .ref a12, .ref a13, .ref a14, .ref a15, .int (nI kf), .int lb, .int (nI lc), .long lo, .int (nI el), .int (nI ec), .long eo, .int eb, .long ed, .int (nI mp), .int (nI ml), .long md, .long mo, .int mb, .ref a16, .ref a17])), (a16, .inl (cI, 1612, .inl mr)), (a17, .inl (cJ, 403, .inr (.inl mq)))]) (va_runS (As := [.int k, .int (nI 1), .int (nI ml)]) (rest := [.ref o]) ⟨hx, hb, hml, hown, hts⟩ (ct_M_in l D cI cJ cZ H.size k (nI 1) (nI ml)) ⟨(callB_of 3 hts (kx_good kw_921) rfl rfl rfl (hts _ (kx_m kw_53)) (hts _ (kx_m kw_919)) (by decide +kernel) ⟨Nat.le_of_ble_eq_true rfl, Nat.le_of_ble_eq_true rfl⟩), (hts _ (kx_m kw_920))⟩ (kx_preS hK hN (hP.sub [] kt_3_) (hD.sub [] (by decide) ks_3_)) rfl rfl hl.1 rfl (lv_room (Nat.le_of_ble_eq_true rfl)) dd_M_line_7 ⟨Nat.le_of_ble_eq_true rfl, Nat.le_of_ble_eq_true rfl⟩) hP hD hS hA [] [0, 1, 2] ks_3_ ks_3_0_1_2 (by decide) (by decide) (fun r7 u7 H locs hw7 hP hD hS => ?_)
  have hP : va_P D vwCl [(o, .inr (0, [.int (nI th), .int (nI cn), .ref a0, .ref a1, .ref a2, .ref a3, .ref a4, .ref a5, .int (nI mn), .ref a6, .ref a7, .int (nI ps), .int (nI bk), .ref a8, .ref a9, .ref a10, .ref a11, .ref a12, .ref a13, .ref a14, .ref a15, .int (nI kf), .int lb, .int (nI lc), .long lo, .int (nI el), .int (nI ec), .long eo, .int eb, .long ed, .int (nI mp), .int (nI ml), .long md, .long mo, .int mb, .ref a16, .ref a17])), (a16, .inl (cI, 1612, .inl mr)), (a17, .inl (cJ, 403, .inr (.inl mq)))] H := hP
  have hD : va_D A [(o, .inr (0, [.int (nI th), .int (nI cn), .ref a0, .ref a1, .ref a2, .ref a3, .ref a4, .ref a5, .int (nI mn), .ref a6, .ref a7, .int (nI ps), .int (nI bk), .ref a8, .ref a9, .ref a10, .ref a11, .ref a12, .ref a13, .ref a14, .ref a15, .int (nI kf), .int lb, .int (nI lc), .long lo, .int (nI el), .int (nI ec), .long eo, .int eb, .long ed, .int (nI mp), .int (nI ml), .long md, .long mo, .int mb, .ref a16, .ref a17])), (a16, .inl (cI, 1612, .inl mr)), (a17, .inl (cJ, 403, .inr (.inl mq)))] := hD
  have hw7 : r7 = kb_p (¬ k < (nI 1) ∧ ¬ (nI ml) < k) := hw7
  subst hw7
  refine lv_if_eq (tgt := 26) hx hb dd_M_line_10 (by decide) (fun c10 => ?_) (fun c10 => ?_)
  · skip
    have c10 : ¬ (¬ k < (nI 1) ∧ ¬ (nI ml) < k) := kb_0.mp c10
    refine lv_iconst (v := nI 1) hx hb dd_M_line_26 (by decide) ?_
    refine va_put (D := D) (ci := 0) (v := .int (nI 1)) (ty := .int) (C := rr_M) (T := tt_M) (N := 37) hx hb hts hin0 ft_M ft_M_ok nn_M hown hK hP hD hS 0 kg_3_0 rfl 0 (by decide) lk2 (fun _ h9 => h9) rfl (by decide +kernel) rfl rfl (Nat.le_of_ble_eq_true rfl) dd_M_line_27 (fun H locs hP hD hS => ?_)
    have hP : va_P D vwCl [(o, .inr (0, [.int (nI 1), .int (nI cn), .ref a0, .ref a1, .ref a2, .ref a3, .ref a4, .ref a5, .int (nI mn), .ref a6, .ref a7, .int (nI ps), .int (nI bk), .ref a8, .ref a9, .ref a10, .ref a11, .ref a12, .ref a13, .ref a14, .ref a15, .int (nI kf), .int lb, .int (nI lc), .long lo, .int (nI el), .int (nI ec), .long eo, .int eb, .long ed, .int (nI mp), .int (nI ml), .long md, .long mo, .int mb, .ref a16, .ref a17])), (a16, .inl (cI, 1612, .inl mr)), (a17, .inl (cJ, 403, .inr (.inl mq)))] H := kx_cP kz_3_0 hP
    have hD : va_D A [(o, .inr (0, [.int (nI 1), .int (nI cn), .ref a0, .ref a1, .ref a2, .ref a3, .ref a4, .ref a5, .int (nI mn), .ref a6, .ref a7, .int (nI ps), .int (nI bk), .ref a8, .ref a9, .ref a10, .ref a11, .ref a12, .ref a13, .ref a14, .ref a15, .int (nI kf), .int lb, .int (nI lc), .long lo, .int (nI el), .int (nI ec), .long eo, .int eb, .long ed, .int (nI mp), .int (nI ml), .long md, .long mo, .int mb, .ref a16, .ref a17])), (a16, .inl (cI, 1612, .inl mr)), (a17, .inl (cJ, 403, .inr (.inl mq)))] := kx_cD kz_3_0 hD
    refine lv_aload_n hx hb dd_M_line_30 rfl (lv_at hl 0 rfl) ?_
    refine va_get (D := D) (ci := 0) (v := .int (nI 1)) (C := rr_M) (T := tt_M) (N := 37) hx hb hts hin0 hown hK hP 0 kg_3_0 rfl 0 (by decide) lk2 (fun _ h9 => h9) rfl dd_M_line_31 ?_
    refine lv_if_le (tgt := 39) hx hb dd_M_line_34 (by decide) (fun h => absurd h (by decide +kernel)) (fun _ => ?_)
    refine lv_iconst (v := nI 0) hx hb dd_M_line_37 (by decide) ?_
    rw [hQ]
    exact kx_iret hx hb hr hlocks hK hN hS dd_M_line_38 1 hP hD (by constructor <;> first | (unfold pm_li; rw [if_neg (fun q => c10 q.1)]; done) | (unfold pm_li; rw [if_neg (fun q => c19 q.2)]; done) | (unfold pm_lt; rw [if_neg (fun q => c10 q.1)]; done) | (unfold pm_lt; rw [if_neg (fun q => c19 q.2)]; done))
  · skip
    have c10 : ¬ k < (nI 1) ∧ ¬ (nI ml) < k := kb_1.mp c10
    refine lv_iload_n hx hb dd_M_line_13 rfl (lv_at hl 2 rfl) ?_
    refine lv_iconst (v := nI 0) hx hb dd_M_line_14 (by decide) ?_
    refine lv_iconst (v := nI 4) hx hb dd_M_line_15 (by decide) ?_
    refine kx_calli (wr := [(o, .inr (0, [.int (nI th), .int (nI cn), .ref a0, .ref a1, .ref a2, .ref a3, .ref a4, .ref a5, .int (nI mn), .ref a6, .ref a7, .int (nI ps), .int (nI bk), .ref a8, .ref a9, .ref a10, .ref a11, .ref a12, .ref a13, .ref a14, .ref a15, .int (nI kf), .int lb, .int (nI lc), .long lo, .int (nI el), .int (nI ec), .long eo, .int eb, .long ed, .int (nI mp), .int (nI ml), .long md, .long mo, .int mb, .ref a16, .ref a17])), (a16, .inl (cI, 1612, .inl mr)), (a17, .inl (cJ, 403, .inr (.inl mq)))]) (va_runS (As := [.int w, .int (nI 0), .int (nI 4)]) (rest := [.ref o]) ⟨hx, hb, hml, hown, hts⟩ (ct_M_in l D cI cJ cZ H.size w (nI 0) (nI 4)) ⟨(callB_of 3 hts (kx_good kw_921) rfl rfl rfl (hts _ (kx_m kw_53)) (hts _ (kx_m kw_919)) (by decide +kernel) ⟨Nat.le_of_ble_eq_true rfl, Nat.le_of_ble_eq_true rfl⟩), (hts _ (kx_m kw_920))⟩ (kx_preS hK hN (hP.sub [] kt_3_) (hD.sub [] (by decide) ks_3_)) rfl rfl hl.1 rfl (lv_room (Nat.le_of_ble_eq_true rfl)) dd_M_line_16 ⟨Nat.le_of_ble_eq_true rfl, Nat.le_of_ble_eq_true rfl⟩) hP hD hS hA [] [0, 1, 2] ks_3_ ks_3_0_1_2 (by decide) (by decide) (fun r16 u16 H locs hw16 hP hD hS => ?_)
    have hP : va_P D vwCl [(o, .inr (0, [.int (nI th), .int (nI cn), .ref a0, .ref a1, .ref a2, .ref a3, .ref a4, .ref a5, .int (nI mn), .ref a6, .ref a7, .int (nI ps), .int (nI bk), .ref a8, .ref a9, .ref a10, .ref a11, .ref a12, .ref a13, .ref a14, .ref a15, .int (nI kf), .int lb, .int (nI lc), .long lo, .int (nI el), .int (nI ec), .long eo, .int eb, .long ed, .int (nI mp), .int (nI ml), .long md, .long mo, .int mb, .ref a16, .ref a17])), (a16, .inl (cI, 1612, .inl mr)), (a17, .inl (cJ, 403, .inr (.inl mq)))] H := hP
    have hD : va_D A [(o, .inr (0, [.int (nI th), .int (nI cn), .ref a0, .ref a1, .ref a2, .ref a3, .ref a4, .ref a5, .int (nI mn), .ref a6, .ref a7, .int (nI ps), .int (nI bk), .ref a8, .ref a9, .ref a10, .ref a11, .ref a12, .ref a13, .ref a14, .ref a15, .int (nI kf), .int lb, .int (nI lc), .long lo, .int (nI el), .int (nI ec), .long eo, .int eb, .long ed, .int (nI mp), .int (nI ml), .long md, .long mo, .int mb, .ref a16, .ref a17])), (a16, .inl (cI, 1612, .inl mr)), (a17, .inl (cJ, 403, .inr (.inl mq)))] := hD
    have hw16 : r16 = kb_p (¬ w < (nI 0) ∧ ¬ (nI 4) < w) := hw16
    subst hw16
    refine lv_if_eq (tgt := 26) hx hb dd_M_line_19 (by decide) (fun c19 => ?_) (fun c19 => ?_)
    · skip
      have c19 : ¬ (¬ w < (nI 0) ∧ ¬ (nI 4) < w) := kb_0.mp c19
      refine lv_iconst (v := nI 1) hx hb dd_M_line_26 (by decide) ?_
      refine va_put (D := D) (ci := 0) (v := .int (nI 1)) (ty := .int) (C := rr_M) (T := tt_M) (N := 37) hx hb hts hin0 ft_M ft_M_ok nn_M hown hK hP hD hS 0 kg_3_0 rfl 0 (by decide) lk2 (fun _ h9 => h9) rfl (by decide +kernel) rfl rfl (Nat.le_of_ble_eq_true rfl) dd_M_line_27 (fun H locs hP hD hS => ?_)
      have hP : va_P D vwCl [(o, .inr (0, [.int (nI 1), .int (nI cn), .ref a0, .ref a1, .ref a2, .ref a3, .ref a4, .ref a5, .int (nI mn), .ref a6, .ref a7, .int (nI ps), .int (nI bk), .ref a8, .ref a9, .ref a10, .ref a11, .ref a12, .ref a13, .ref a14, .ref a15, .int (nI kf), .int lb, .int (nI lc), .long lo, .int (nI el), .int (nI ec), .long eo, .int eb, .long ed, .int (nI mp), .int (nI ml), .long md, .long mo, .int mb, .ref a16, .ref a17])), (a16, .inl (cI, 1612, .inl mr)), (a17, .inl (cJ, 403, .inr (.inl mq)))] H := kx_cP kz_3_0 hP
      have hD : va_D A [(o, .inr (0, [.int (nI 1), .int (nI cn), .ref a0, .ref a1, .ref a2, .ref a3, .ref a4, .ref a5, .int (nI mn), .ref a6, .ref a7, .int (nI ps), .int (nI bk), .ref a8, .ref a9, .ref a10, .ref a11, .ref a12, .ref a13, .ref a14, .ref a15, .int (nI kf), .int lb, .int (nI lc), .long lo, .int (nI el), .int (nI ec), .long eo, .int eb, .long ed, .int (nI mp), .int (nI ml), .long md, .long mo, .int mb, .ref a16, .ref a17])), (a16, .inl (cI, 1612, .inl mr)), (a17, .inl (cJ, 403, .inr (.inl mq)))] := kx_cD kz_3_0 hD
      refine lv_aload_n hx hb dd_M_line_30 rfl (lv_at hl 0 rfl) ?_
      refine va_get (D := D) (ci := 0) (v := .int (nI 1)) (C := rr_M) (T := tt_M) (N := 37) hx hb hts hin0 hown hK hP 0 kg_3_0 rfl 0 (by decide) lk2 (fun _ h9 => h9) rfl dd_M_line_31 ?_
      refine lv_if_le (tgt := 39) hx hb dd_M_line_34 (by decide) (fun h => absurd h (by decide +kernel)) (fun _ => ?_)
      refine lv_iconst (v := nI 0) hx hb dd_M_line_37 (by decide) ?_
      rw [hQ]
      exact kx_iret hx hb hr hlocks hK hN hS dd_M_line_38 1 hP hD (by constructor <;> first | (unfold pm_li; rw [if_neg (fun q => c10 q.1)]; done) | (unfold pm_li; rw [if_neg (fun q => c19 q.2)]; done) | (unfold pm_lt; rw [if_neg (fun q => c10 q.1)]; done) | (unfold pm_lt; rw [if_neg (fun q => c19 q.2)]; done))
    · skip
      have c19 : ¬ w < (nI 0) ∧ ¬ (nI 4) < w := kb_1.mp c19
      refine lv_iconst (v := nI 0) hx hb dd_M_line_22 (by decide) ?_
      refine lv_goto (tgt := 27) hx hb dd_M_line_23 (by decide) ?_
      refine va_put (D := D) (ci := 0) (v := .int (nI 0)) (ty := .int) (C := rr_M) (T := tt_M) (N := 37) hx hb hts hin0 ft_M ft_M_ok nn_M hown hK hP hD hS 0 kg_3_0 rfl 0 (by decide) lk2 (fun _ h9 => h9) rfl (by decide +kernel) rfl rfl (Nat.le_of_ble_eq_true rfl) dd_M_line_27 (fun H locs hP hD hS => ?_)
      have hP : va_P D vwCl [(o, .inr (0, [.int (nI 0), .int (nI cn), .ref a0, .ref a1, .ref a2, .ref a3, .ref a4, .ref a5, .int (nI mn), .ref a6, .ref a7, .int (nI ps), .int (nI bk), .ref a8, .ref a9, .ref a10, .ref a11, .ref a12, .ref a13, .ref a14, .ref a15, .int (nI kf), .int lb, .int (nI lc), .long lo, .int (nI el), .int (nI ec), .long eo, .int eb, .long ed, .int (nI mp), .int (nI ml), .long md, .long mo, .int mb, .ref a16, .ref a17])), (a16, .inl (cI, 1612, .inl mr)), (a17, .inl (cJ, 403, .inr (.inl mq)))] H := kx_cP kz_3_0 hP
      have hD : va_D A [(o, .inr (0, [.int (nI 0), .int (nI cn), .ref a0, .ref a1, .ref a2, .ref a3, .ref a4, .ref a5, .int (nI mn), .ref a6, .ref a7, .int (nI ps), .int (nI bk), .ref a8, .ref a9, .ref a10, .ref a11, .ref a12, .ref a13, .ref a14, .ref a15, .int (nI kf), .int lb, .int (nI lc), .long lo, .int (nI el), .int (nI ec), .long eo, .int eb, .long ed, .int (nI mp), .int (nI ml), .long md, .long mo, .int mb, .ref a16, .ref a17])), (a16, .inl (cI, 1612, .inl mr)), (a17, .inl (cJ, 403, .inr (.inl mq)))] := kx_cD kz_3_0 hD
      refine lv_aload_n hx hb dd_M_line_30 rfl (lv_at hl 0 rfl) ?_
      refine va_get (D := D) (ci := 0) (v := .int (nI 0)) (C := rr_M) (T := tt_M) (N := 37) hx hb hts hin0 hown hK hP 0 kg_3_0 rfl 0 (by decide) lk2 (fun _ h9 => h9) rfl dd_M_line_31 ?_
      refine lv_if_le (tgt := 39) hx hb dd_M_line_34 (by decide) (fun _ => ?_) (fun h => absurd (by decide +kernel) h)
      have hkb := (kn_box1 (by omega) c10.1 c10.2).2
      have hwb := (kn_box (n := 4) (by decide) c19.1 c19.2).2
      refine lv_aload_n hx hb dd_M_line_39 rfl (lv_at hl 0 rfl) ?_
      refine va_get (D := D) (ci := 0) (v := .ref a17) (C := rr_M) (T := tt_M) (N := 37) hx hb hts hin0 hown hK hP 0 kg_3_0 rfl 36 (by decide) lk3 (fun _ h9 => h9) rfl dd_M_line_40 ?_
      refine lv_iload_n hx hb dd_M_line_43 rfl (lv_at hl 1 rfl) ?_
      refine kx_toN (n := k.toNatClampNeg) ((kn_box1 (by omega) c10.1 c10.2).1) ?_
      refine kx_lald (q0 := 2) (t0 := 1) hx hb dd_M_line_44 hK hP kg_3_2 rfl (by omega) (by omega) ?_
      refine lv_lstore_n (lv' := [(3, .long (mq k.toNatClampNeg)), (0, .ref o), (1, .int k), (2, .int w)]) hx hb dd_M_line_45 rfl hl (by decide) rfl (fun ls hl => ?_)
      refine lv_iload_n hx hb dd_M_line_46 rfl (lv_at hl 3 rfl) ?_
      refine lv_iconst (v := nI 4) hx hb dd_M_line_47 (by decide) ?_
      refine lv_icmp_ge (tgt := 66) hx hb dd_M_line_48 (by decide) (fun c48 => ?_) (fun c48 => ?_)
      · skip
        refine lv_lload_n hx hb dd_M_line_66 rfl (lv_at hl 0 rfl) ?_
        refine lv_ldc2 (v := (2147483647)) hx hb hown lk4 dd_M_line_67 ?_
        refine W.lcmp hx hb dd_M_line_70 ?_
        refine lv_if_le (tgt := 79) hx hb dd_M_line_71 (by decide) (fun c71 => ?_) (fun c71 => ?_)
        · skip
          have c71 := (lg_cmp_le _ _).mp c71
          refine lv_lload_n hx hb dd_M_line_79 rfl (lv_at hl 0 rfl) ?_
          refine lv_l2i hx hb dd_M_line_80 rfl ?_
          rw [hQ]
          exact kx_iret hx hb hr hlocks hK hN hS dd_M_line_81 0 hP hD (by constructor <;> first | (unfold pm_lt; rw [if_pos ⟨c10, c19⟩]; done) | (unfold pm_li; rw [if_pos ⟨c10, c19⟩, if_neg c48]; done) | (unfold pm_li; rw [if_pos ⟨c10, c19⟩, if_pos c48, if_pos c71]; done) | (unfold pm_li; rw [if_pos ⟨c10, c19⟩, if_pos c48, if_neg c71]; done))
        · skip
          have c71 : ¬ ((mq k.toNatClampNeg) ≤ (2147483647 : Int64)) := fun h => c71 ((lg_cmp_le _ _).mpr h)
          refine lv_ldc (v := nI 2147483647) hx hb hown lk5 dd_M_line_74 ?_
          refine lv_goto (tgt := 81) hx hb dd_M_line_76 (by decide) ?_
          rw [hQ]
          exact kx_iret hx hb hr hlocks hK hN hS dd_M_line_81 0 hP hD (by constructor <;> first | (unfold pm_lt; rw [if_pos ⟨c10, c19⟩]; done) | (unfold pm_li; rw [if_pos ⟨c10, c19⟩, if_neg c48]; done) | (unfold pm_li; rw [if_pos ⟨c10, c19⟩, if_pos c48, if_pos c71]; done) | (unfold pm_li; rw [if_pos ⟨c10, c19⟩, if_pos c48, if_neg c71]; done))
      · skip
        refine lv_aload_n hx hb dd_M_line_51 rfl (lv_at hl 1 rfl) ?_
        refine va_get (D := D) (ci := 0) (v := .ref a16) (C := rr_M) (T := tt_M) (N := 37) hx hb hts hin0 hown hK hP 0 kg_3_0 rfl 35 (by decide) lk6 (fun _ h9 => h9) rfl dd_M_line_52 ?_
        refine lv_iconst (v := nI 4) hx hb dd_M_line_55 (by decide) ?_
        refine lv_iload_n hx hb dd_M_line_56 rfl (lv_at hl 2 rfl) ?_
        refine kx_toN (n := k.toNatClampNeg) ((kn_box1 (by omega) c10.1 c10.2).1) ?_
        refine kx_imul hx hb dd_M_line_57 ?_
        refine lv_iconst (v := nI 4) hx hb dd_M_line_58 (by decide) ?_
        refine kx_isub hx hb dd_M_line_59 (by omega) ?_
        refine lv_iload_n hx hb dd_M_line_60 rfl (lv_at hl 3 rfl) ?_
        refine kx_toN (n := w.toNatClampNeg) ((kn_box (by decide) c19.1 c19.2).1) ?_
        refine kx_iadd hx hb dd_M_line_61 ?_
        refine kx_iald (q0 := 1) (t0 := 0) hx hb dd_M_line_62 hK hP kg_3_1 rfl (by omega) (by omega) ?_
        refine lv_goto (tgt := 81) hx hb dd_M_line_63 (by decide) ?_
        rw [hQ]
        exact kx_iret hx hb hr hlocks hK hN hS dd_M_line_81 0 hP hD (by constructor <;> first | (unfold pm_lt; rw [if_pos ⟨c10, c19⟩]; done) | (unfold pm_li; rw [if_pos ⟨c10, c19⟩, if_neg c48]; done) | (unfold pm_li; rw [if_pos ⟨c10, c19⟩, if_pos c48, if_pos c71]; done) | (unfold pm_li; rw [if_pos ⟨c10, c19⟩, if_pos c48, if_neg c71]; done))

theorem dd_M_about_0 : decode bb_M_about 0 = .ok (.aload_n 0, 1) := by decide +kernel
theorem dd_M_about_1 : decode bb_M_about 1 = .ok (.iconst 0, 1) := by decide +kernel
theorem dd_M_about_2 : decode bb_M_about 2 = .ok (.putfield 71, 3) := by decide +kernel
theorem dd_M_about_5 : decode bb_M_about 5 = .ok (.iload_n 1, 1) := by decide +kernel
theorem dd_M_about_6 : decode bb_M_about 6 = .ok (.ifCond .ne (11), 3) := by decide +kernel
theorem dd_M_about_9 : decode bb_M_about 9 = .ok (.aload_n 0, 1) := by decide +kernel
theorem dd_M_about_10 : decode bb_M_about 10 = .ok (.getfield 203, 3) := by decide +kernel
theorem dd_M_about_13 : decode bb_M_about 13 = .ok (.i2l, 1) := by decide +kernel
theorem dd_M_about_14 : decode bb_M_about 14 = .ok (.goto (67), 3) := by decide +kernel
theorem dd_M_about_17 : decode bb_M_about 17 = .ok (.iload_n 1, 1) := by decide +kernel
theorem dd_M_about_18 : decode bb_M_about 18 = .ok (.iconst 1, 1) := by decide +kernel
theorem dd_M_about_19 : decode bb_M_about 19 = .ok (.if_icmp .ne (11), 3) := by decide +kernel
theorem dd_M_about_22 : decode bb_M_about 22 = .ok (.aload_n 0, 1) := by decide +kernel
theorem dd_M_about_23 : decode bb_M_about 23 = .ok (.getfield 206, 3) := by decide +kernel
theorem dd_M_about_26 : decode bb_M_about 26 = .ok (.i2l, 1) := by decide +kernel
theorem dd_M_about_27 : decode bb_M_about 27 = .ok (.goto (54), 3) := by decide +kernel
theorem dd_M_about_30 : decode bb_M_about 30 = .ok (.iload_n 1, 1) := by decide +kernel
theorem dd_M_about_31 : decode bb_M_about 31 = .ok (.iconst 2, 1) := by decide +kernel
theorem dd_M_about_32 : decode bb_M_about 32 = .ok (.if_icmp .ne (10), 3) := by decide +kernel
theorem dd_M_about_35 : decode bb_M_about 35 = .ok (.aload_n 0, 1) := by decide +kernel
theorem dd_M_about_36 : decode bb_M_about 36 = .ok (.getfield 209, 3) := by decide +kernel
theorem dd_M_about_39 : decode bb_M_about 39 = .ok (.goto (42), 3) := by decide +kernel
theorem dd_M_about_42 : decode bb_M_about 42 = .ok (.iload_n 1, 1) := by decide +kernel
theorem dd_M_about_43 : decode bb_M_about 43 = .ok (.iconst 3, 1) := by decide +kernel
theorem dd_M_about_44 : decode bb_M_about 44 = .ok (.if_icmp .ne (10), 3) := by decide +kernel
theorem dd_M_about_47 : decode bb_M_about 47 = .ok (.aload_n 0, 1) := by decide +kernel
theorem dd_M_about_48 : decode bb_M_about 48 = .ok (.getfield 212, 3) := by decide +kernel
theorem dd_M_about_51 : decode bb_M_about 51 = .ok (.goto (30), 3) := by decide +kernel
theorem dd_M_about_54 : decode bb_M_about 54 = .ok (.iload_n 1, 1) := by decide +kernel
theorem dd_M_about_55 : decode bb_M_about 55 = .ok (.iconst 4, 1) := by decide +kernel
theorem dd_M_about_56 : decode bb_M_about 56 = .ok (.if_icmp .ne (11), 3) := by decide +kernel
theorem dd_M_about_59 : decode bb_M_about 59 = .ok (.aload_n 0, 1) := by decide +kernel
theorem dd_M_about_60 : decode bb_M_about 60 = .ok (.getfield 215, 3) := by decide +kernel
theorem dd_M_about_63 : decode bb_M_about 63 = .ok (.i2l, 1) := by decide +kernel
theorem dd_M_about_64 : decode bb_M_about 64 = .ok (.goto (17), 3) := by decide +kernel
theorem dd_M_about_67 : decode bb_M_about 67 = .ok (.iload_n 1, 1) := by decide +kernel
theorem dd_M_about_68 : decode bb_M_about 68 = .ok (.iconst 5, 1) := by decide +kernel
theorem dd_M_about_69 : decode bb_M_about 69 = .ok (.if_icmp .ne (11), 3) := by decide +kernel
theorem dd_M_about_72 : decode bb_M_about 72 = .ok (.aload_n 0, 1) := by decide +kernel
theorem dd_M_about_73 : decode bb_M_about 73 = .ok (.getfield 85, 3) := by decide +kernel
theorem dd_M_about_76 : decode bb_M_about 76 = .ok (.i2l, 1) := by decide +kernel
theorem dd_M_about_77 : decode bb_M_about 77 = .ok (.goto (4), 3) := by decide +kernel
theorem dd_M_about_80 : decode bb_M_about 80 = .ok (.lconst 0, 1) := by decide +kernel
theorem dd_M_about_81 : decode bb_M_about 81 = .ok (.lreturn, 1) := by decide +kernel

set_option maxHeartbeats 4000000 in
set_option maxRecDepth 100000 in
theorem ct_M_about (l : Launch) (D : va_G) (cI cJ cZ : ClassId) (sz : Nat) (o : Nat) (th : Nat) (cn : Nat) (a0 : Nat) (a1 : Nat) (a2 : Nat) (a3 : Nat) (a4 : Nat) (a5 : Nat) (mn : Nat) (a6 : Nat) (a7 : Nat) (ps : Nat) (bk : Nat) (a8 : Nat) (a9 : Nat) (a10 : Nat) (a11 : Nat) (a12 : Nat) (a13 : Nat) (a14 : Nat) (a15 : Nat) (kf : Nat) (lb : Int32) (lc : Nat) (lo : Int64) (el : Nat) (ec : Nat) (eo : Int64) (eb : Int32) (ed : Int64) (mp : Nat) (ml : Nat) (md : Int64) (mo : Int64) (mb : Int32) (a16 : Nat) (a17 : Nat) (w : Int32) : kx_Ml l yy_M_about ww_M_about ({ frames := 0, cells := 0, slots := 0, locals := 0 }) D vwCl (kx_ty cI cJ cZ) [.ref o, .int w] [(o, .inr (0, [.int (nI th), .int (nI cn), .ref a0, .ref a1, .ref a2, .ref a3, .ref a4, .ref a5, .int (nI mn), .ref a6, .ref a7, .int (nI ps), .int (nI bk), .ref a8, .ref a9, .ref a10, .ref a11, .ref a12, .ref a13, .ref a14, .ref a15, .int (nI kf), .int lb, .int (nI lc), .long lo, .int (nI el), .int (nI ec), .long eo, .int eb, .long ed, .int (nI mp), .int (nI ml), .long md, .long mo, .int mb, .ref a16, .ref a17]))] sz (fun (r : Int64) (u : Unit) => r = pm_ao mp ml cn md mo mb w) (fun (u : Unit) => [(o, .inr (0, [.int (nI 0), .int (nI cn), .ref a0, .ref a1, .ref a2, .ref a3, .ref a4, .ref a5, .int (nI mn), .ref a6, .ref a7, .int (nI ps), .int (nI bk), .ref a8, .ref a9, .ref a10, .ref a11, .ref a12, .ref a13, .ref a14, .ref a15, .int (nI kf), .int lb, .int (nI lc), .long lo, .int (nI el), .int (nI ec), .long eo, .int eb, .long ed, .int (nI mp), .int (nI ml), .long md, .long mo, .int mb, .ref a16, .ref a17]))]) 0 0 := by
  refine kx_startl (by decide) rfl (Nat.le_of_ble_eq_true rfl) ?_
  intro p e s m below meth c A ls hx hb hr hml hts hown hlocks hin hP hK hN hD hA hS hl
  have hl : lv_has ls 2 [(0, .ref o), (1, .int w)] := hl
  have hown : s.vm.findClass rr_M = some m.cls := hown
  have lk0 := hts _ (kx_m kw_798)
  have hin0 : ∀ w ∈ u_ws rr_M tt_M 37, w ∈ ww_M_about := fun w h => kx_m (kf_M w h)
  have lk2 := hts _ (kx_m kw_799)
  have lk3 := hts _ (kx_m kw_832)
  have lk4 := hts _ (kx_m kw_831)
  have lk5 := hts _ (kx_m kw_830)
  have lk6 := hts _ (kx_m kw_829)
  have lk7 := hts _ (kx_m kw_828)
  obtain ⟨H, hH⟩ : ∃ H, H = s.heap := ⟨_, rfl⟩
  obtain ⟨locs, hlocs⟩ : ∃ z : List Loc, z = [] := ⟨_, rfl⟩
  have hP : va_P D vwCl [(o, .inr (0, [.int (nI th), .int (nI cn), .ref a0, .ref a1, .ref a2, .ref a3, .ref a4, .ref a5, .int (nI mn), .ref a6, .ref a7, .int (nI ps), .int (nI bk), .ref a8, .ref a9, .ref a10, .ref a11, .ref a12, .ref a13, .ref a14, .ref a15, .int (nI kf), .int lb, .int (nI lc), .long lo, .int (nI el), .int (nI ec), .long eo, .int eb, .long ed, .int (nI mp), .int (nI ml), .long md, .long mo, .int mb, .ref a16, .ref a17]))] H := by rw [hH]; exact hP
  have hS : va_S A s.heap H locs := by rw [hH, hlocs]; exact hS
  refine kx_gen hH hlocs ?_
  clear hH hlocs
  refine kx_nameQ (fun Q hQ => ?_)
  refine lv_aload_n hx hb dd_M_about_0 rfl (lv_at hl 0 rfl) ?_
  refine lv_iconst (v := nI 0) hx hb dd_M_about_1 (by decide) ?_
  refine va_put (D := D) (ci := 0) (v := .int (nI 0)) (ty := .int) (C := rr_M) (T := tt_M) (N := 37) hx hb hts hin0 ft_M ft_M_ok nn_M hown hK hP hD hS 0 kg_1_0 rfl 0 (by decide) lk0 (fun _ h9 => h9) rfl (by decide +kernel) rfl rfl (Nat.le_of_ble_eq_true rfl) dd_M_about_2 (fun H locs hP hD hS => ?_)
  have hP : va_P D vwCl [(o, .inr (0, [.int (nI 0), .int (nI cn), .ref a0, .ref a1, .ref a2, .ref a3, .ref a4, .ref a5, .int (nI mn), .ref a6, .ref a7, .int (nI ps), .int (nI bk), .ref a8, .ref a9, .ref a10, .ref a11, .ref a12, .ref a13, .ref a14, .ref a15, .int (nI kf), .int lb, .int (nI lc), .long lo, .int (nI el), .int (nI ec), .long eo, .int eb, .long ed, .int (nI mp), .int (nI ml), .long md, .long mo, .int mb, .ref a16, .ref a17]))] H := kx_cP kz_1_0 hP
  have hD : va_D A [(o, .inr (0, [.int (nI 0), .int (nI cn), .ref a0, .ref a1, .ref a2, .ref a3, .ref a4, .ref a5, .int (nI mn), .ref a6, .ref a7, .int (nI ps), .int (nI bk), .ref a8, .ref a9, .ref a10, .ref a11, .ref a12, .ref a13, .ref a14, .ref a15, .int (nI kf), .int lb, .int (nI lc), .long lo, .int (nI el), .int (nI ec), .long eo, .int eb, .long ed, .int (nI mp), .int (nI ml), .long md, .long mo, .int mb, .ref a16, .ref a17]))] := kx_cD kz_1_0 hD
  refine lv_iload_n hx hb dd_M_about_5 rfl (lv_at hl 1 rfl) ?_
  refine lv_if_ne (tgt := 17) hx hb dd_M_about_6 (by decide) (fun c6 => ?_) (fun c6 => ?_)
  · skip
    refine lv_iload_n hx hb dd_M_about_17 rfl (lv_at hl 1 rfl) ?_
    refine lv_iconst (v := nI 1) hx hb dd_M_about_18 (by decide) ?_
    refine lv_icmp_ne (tgt := 30) hx hb dd_M_about_19 (by decide) (fun c19 => ?_) (fun c19 => ?_)
    · skip
      refine lv_iload_n hx hb dd_M_about_30 rfl (lv_at hl 1 rfl) ?_
      refine lv_iconst (v := nI 2) hx hb dd_M_about_31 (by decide) ?_
      refine lv_icmp_ne (tgt := 42) hx hb dd_M_about_32 (by decide) (fun c32 => ?_) (fun c32 => ?_)
      · skip
        refine lv_iload_n hx hb dd_M_about_42 rfl (lv_at hl 1 rfl) ?_
        refine lv_iconst (v := nI 3) hx hb dd_M_about_43 (by decide) ?_
        refine lv_icmp_ne (tgt := 54) hx hb dd_M_about_44 (by decide) (fun c44 => ?_) (fun c44 => ?_)
        · skip
          refine lv_iload_n hx hb dd_M_about_54 rfl (lv_at hl 1 rfl) ?_
          refine lv_iconst (v := nI 4) hx hb dd_M_about_55 (by decide) ?_
          refine lv_icmp_ne (tgt := 67) hx hb dd_M_about_56 (by decide) (fun c56 => ?_) (fun c56 => ?_)
          · skip
            refine lv_iload_n hx hb dd_M_about_67 rfl (lv_at hl 1 rfl) ?_
            refine lv_iconst (v := nI 5) hx hb dd_M_about_68 (by decide) ?_
            refine lv_icmp_ne (tgt := 80) hx hb dd_M_about_69 (by decide) (fun c69 => ?_) (fun c69 => ?_)
            · skip
              refine lv_lconst (v := 0) hx hb dd_M_about_80 (by decide) ?_
              rw [hQ]
              exact kx_lret hx hb hr hlocks hK hN hS dd_M_about_81 () hP hD (by unfold pm_ao; rw [if_neg c6, if_neg c19, if_neg c32, if_neg c44, if_neg c56, if_neg c69])
            · skip
              refine lv_aload_n hx hb dd_M_about_72 rfl (lv_at hl 0 rfl) ?_
              refine va_get (D := D) (ci := 0) (v := .int (nI cn)) (C := rr_M) (T := tt_M) (N := 37) hx hb hts hin0 hown hK hP 0 kg_1_0 rfl 1 (by decide) lk2 (fun _ h9 => h9) rfl dd_M_about_73 ?_
              refine lv_i2l hx hb dd_M_about_76 rfl ?_
              refine lv_goto (tgt := 81) hx hb dd_M_about_77 (by decide) ?_
              rw [hQ]
              exact kx_lret hx hb hr hlocks hK hN hS dd_M_about_81 () hP hD (by unfold pm_ao; rw [if_neg c6, if_neg c19, if_neg c32, if_neg c44, if_neg c56, if_pos c69])
          · skip
            refine lv_aload_n hx hb dd_M_about_59 rfl (lv_at hl 0 rfl) ?_
            refine va_get (D := D) (ci := 0) (v := .int mb) (C := rr_M) (T := tt_M) (N := 37) hx hb hts hin0 hown hK hP 0 kg_1_0 rfl 34 (by decide) lk3 (fun _ h9 => h9) rfl dd_M_about_60 ?_
            refine lv_i2l hx hb dd_M_about_63 rfl ?_
            refine lv_goto (tgt := 81) hx hb dd_M_about_64 (by decide) ?_
            rw [hQ]
            exact kx_lret hx hb hr hlocks hK hN hS dd_M_about_81 () hP hD (by unfold pm_ao; rw [if_neg c6, if_neg c19, if_neg c32, if_neg c44, if_pos c56])
        · skip
          refine lv_aload_n hx hb dd_M_about_47 rfl (lv_at hl 0 rfl) ?_
          refine va_get (D := D) (ci := 0) (v := .long mo) (C := rr_M) (T := tt_M) (N := 37) hx hb hts hin0 hown hK hP 0 kg_1_0 rfl 33 (by decide) lk4 (fun _ h9 => h9) rfl dd_M_about_48 ?_
          refine lv_goto (tgt := 81) hx hb dd_M_about_51 (by decide) ?_
          rw [hQ]
          exact kx_lret hx hb hr hlocks hK hN hS dd_M_about_81 () hP hD (by unfold pm_ao; rw [if_neg c6, if_neg c19, if_neg c32, if_pos c44])
      · skip
        refine lv_aload_n hx hb dd_M_about_35 rfl (lv_at hl 0 rfl) ?_
        refine va_get (D := D) (ci := 0) (v := .long md) (C := rr_M) (T := tt_M) (N := 37) hx hb hts hin0 hown hK hP 0 kg_1_0 rfl 32 (by decide) lk5 (fun _ h9 => h9) rfl dd_M_about_36 ?_
        refine lv_goto (tgt := 81) hx hb dd_M_about_39 (by decide) ?_
        rw [hQ]
        exact kx_lret hx hb hr hlocks hK hN hS dd_M_about_81 () hP hD (by unfold pm_ao; rw [if_neg c6, if_neg c19, if_pos c32])
    · skip
      refine lv_aload_n hx hb dd_M_about_22 rfl (lv_at hl 0 rfl) ?_
      refine va_get (D := D) (ci := 0) (v := .int (nI ml)) (C := rr_M) (T := tt_M) (N := 37) hx hb hts hin0 hown hK hP 0 kg_1_0 rfl 31 (by decide) lk6 (fun _ h9 => h9) rfl dd_M_about_23 ?_
      refine lv_i2l hx hb dd_M_about_26 rfl ?_
      refine lv_goto (tgt := 81) hx hb dd_M_about_27 (by decide) ?_
      rw [hQ]
      exact kx_lret hx hb hr hlocks hK hN hS dd_M_about_81 () hP hD (by unfold pm_ao; rw [if_neg c6, if_pos c19])
  · skip
    refine lv_aload_n hx hb dd_M_about_9 rfl (lv_at hl 0 rfl) ?_
    refine va_get (D := D) (ci := 0) (v := .int (nI mp)) (C := rr_M) (T := tt_M) (N := 37) hx hb hts hin0 hown hK hP 0 kg_1_0 rfl 30 (by decide) lk7 (fun _ h9 => h9) rfl dd_M_about_10 ?_
    refine lv_i2l hx hb dd_M_about_13 rfl ?_
    refine lv_goto (tgt := 81) hx hb dd_M_about_14 (by decide) ?_
    rw [hQ]
    exact kx_lret hx hb hr hlocks hK hN hS dd_M_about_81 () hP hD (by unfold pm_ao; rw [if_pos c6])
