/-! breaks -/
def pk_cost (ik ic fl ru : Nat → Int32) (cn i : Nat) : Int32 := if i < cn ∧ ik i = nI 4 then (if pk_fl ik fl cn i (nI 1) then ru 3 else ru 4) else if i < cn ∧ ik i = nI 3 then ic i else nI 0
theorem pk_set1 {bg bi g1 : Nat → Int32} {sd x1 : Nat} {be : Int32} (h1 : sd + 1 ≤ x1) (hg : ∀ y, g1 y = if sd < y ∧ y < x1 ∧ bg y = bi y then be else bg y) (h : ¬ g1 x1 = bi x1) (y : Nat) : g1 y = if sd < y ∧ y < x1 + 1 ∧ bg y = bi y then be else bg y := by
  have hx : g1 x1 = bg x1 := by rw [hg x1, if_neg (by omega)]
  by_cases e : y = x1
  · subst e
    rw [hx, if_neg (fun q => h (hx.trans q.2.2))]
  · rw [hg y]
    congr 1
    exact propext ⟨fun q => ⟨q.1, by omega, q.2.2⟩, fun q => ⟨q.1, by omega, q.2.2⟩⟩
theorem pk_set0 {bg bi g1 : Nat → Int32} {sd x1 : Nat} {be : Int32} (h1 : sd + 1 ≤ x1) (hg : ∀ y, g1 y = if sd < y ∧ y < x1 ∧ bg y = bi y then be else bg y) (h : g1 x1 = bi x1) (y : Nat) : upd g1 x1 be y = if sd < y ∧ y < x1 + 1 ∧ bg y = bi y then be else bg y := by
  have hx : g1 x1 = bg x1 := by rw [hg x1, if_neg (by omega)]
  unfold upd
  by_cases e : y = x1
  · subst e
    rw [if_pos rfl, if_pos ⟨by omega, by omega, hx.symm.trans h⟩]
  · rw [if_neg e, hg y]
    congr 1
    exact propext ⟨fun q => ⟨q.1, by omega, q.2.2⟩, fun q => ⟨q.1, by omega, q.2.2⟩⟩
theorem kz_8_1 {c0 c1 c2 c3 c4 c5 c6 c7 : Nat × va_E} {x : Nat × va_E} : ([c0, c1, c2, c3, c4, c5, c6, c7] : va_W).set 1 x = [c0, x, c2, c3, c4, c5, c6, c7] := rfl
theorem kz_8_2 {c0 c1 c2 c3 c4 c5 c6 c7 : Nat × va_E} {x : Nat × va_E} : ([c0, c1, c2, c3, c4, c5, c6, c7] : va_W).set 2 x = [c0, c1, x, c3, c4, c5, c6, c7] := rfl
theorem kz_8_3 {c0 c1 c2 c3 c4 c5 c6 c7 : Nat × va_E} {x : Nat × va_E} : ([c0, c1, c2, c3, c4, c5, c6, c7] : va_W).set 3 x = [c0, c1, c2, x, c4, c5, c6, c7] := rfl
theorem kz_8_4 {c0 c1 c2 c3 c4 c5 c6 c7 : Nat × va_E} {x : Nat × va_E} : ([c0, c1, c2, c3, c4, c5, c6, c7] : va_W).set 4 x = [c0, c1, c2, c3, x, c5, c6, c7] := rfl
theorem kz_8_5 {c0 c1 c2 c3 c4 c5 c6 c7 : Nat × va_E} {x : Nat × va_E} : ([c0, c1, c2, c3, c4, c5, c6, c7] : va_W).set 5 x = [c0, c1, c2, c3, c4, x, c6, c7] := rfl
theorem kt_6_0_2 {c0 c1 c2 c3 c4 c5 : Nat × va_E} : ([0, 2] : List Nat).filterMap (fun i => ([c0, c1, c2, c3, c4, c5] : va_W)[i]?) = ([c0, c2] : va_W) := rfl
theorem ks_6_0_2 {c0 c1 c2 c3 c4 c5 : Nat × va_E} : ([0, 2] : List Nat).map (fun i => ([c0, c1, c2, c3, c4, c5] : va_W)[i]?) = ([c0, c2] : va_W).map some := rfl
theorem ks_6_1_3_4_5 {c0 c1 c2 c3 c4 c5 : Nat × va_E} : ([1, 3, 4, 5] : List Nat).map (fun i => ([c0, c1, c2, c3, c4, c5] : va_W)[i]?) = ([c1, c3, c4, c5] : va_W).map some := rfl
theorem kt_6_4_0_5_1_2_3 {c0 c1 c2 c3 c4 c5 : Nat × va_E} : ([4, 0, 5, 1, 2, 3] : List Nat).filterMap (fun i => ([c0, c1, c2, c3, c4, c5] : va_W)[i]?) = ([c4, c0, c5, c1, c2, c3] : va_W) := rfl
theorem ks_6_4_0_5_1_2_3 {c0 c1 c2 c3 c4 c5 : Nat × va_E} : ([4, 0, 5, 1, 2, 3] : List Nat).map (fun i => ([c0, c1, c2, c3, c4, c5] : va_W)[i]?) = ([c4, c0, c5, c1, c2, c3] : va_W).map some := rfl
theorem kt_6_0_2_4 {c0 c1 c2 c3 c4 c5 : Nat × va_E} : ([0, 2, 4] : List Nat).filterMap (fun i => ([c0, c1, c2, c3, c4, c5] : va_W)[i]?) = ([c0, c2, c4] : va_W) := rfl
theorem ks_6_0_2_4 {c0 c1 c2 c3 c4 c5 : Nat × va_E} : ([0, 2, 4] : List Nat).map (fun i => ([c0, c1, c2, c3, c4, c5] : va_W)[i]?) = ([c0, c2, c4] : va_W).map some := rfl
theorem ks_6_1_3_5 {c0 c1 c2 c3 c4 c5 : Nat × va_E} : ([1, 3, 5] : List Nat).map (fun i => ([c0, c1, c2, c3, c4, c5] : va_W)[i]?) = ([c1, c3, c5] : va_W).map some := rfl
theorem kt_6_3_0_4_1_5_2 {c0 c1 c2 c3 c4 c5 : Nat × va_E} : ([3, 0, 4, 1, 5, 2] : List Nat).filterMap (fun i => ([c0, c1, c2, c3, c4, c5] : va_W)[i]?) = ([c3, c0, c4, c1, c5, c2] : va_W) := rfl
theorem ks_6_3_0_4_1_5_2 {c0 c1 c2 c3 c4 c5 : Nat × va_E} : ([3, 0, 4, 1, 5, 2] : List Nat).map (fun i => ([c0, c1, c2, c3, c4, c5] : va_W)[i]?) = ([c3, c0, c4, c1, c5, c2] : va_W).map some := rfl
theorem kw_103 : Cond.fieldLink rr_Bk (84) "LineDesk$Settings" "rules" "[I" ∈ kx_T := kx_in (i := 103) (by decide +kernel) (by decide +kernel)
theorem kw_136 : Cond.fieldLink rr_Bk (92) "LineDesk$Items" "cost" "[I" ∈ kx_T := kx_in (i := 136) (by decide +kernel) (by decide +kernel)
theorem kw_189 : Cond.fieldLink rr_Bk (48) "LineDesk$Breaks" "count" "I" ∈ kx_T := kx_in (i := 189) (by decide +kernel) (by decide +kernel)
theorem kw_190 : Cond.fieldLink rr_Bk (52) "LineDesk$Breaks" "lastForced" "I" ∈ kx_T := kx_in (i := 190) (by decide +kernel) (by decide +kernel)
theorem kw_191 : Cond.fieldLink rr_Bk (15) "LineDesk$Breaks" "item" "[I" ∈ kx_T := kx_in (i := 191) (by decide +kernel) (by decide +kernel)
theorem kw_194 : Cond.fieldLink rr_Bk (19) "LineDesk$Breaks" "cost" "[I" ∈ kx_T := kx_in (i := 194) (by decide +kernel) (by decide +kernel)
theorem kw_196 : Cond.fieldLink rr_Bk (22) "LineDesk$Breaks" "ahead" "[I" ∈ kx_T := kx_in (i := 196) (by decide +kernel) (by decide +kernel)
theorem kw_198 : Cond.fieldLink rr_Bk (25) "LineDesk$Breaks" "behind" "[I" ∈ kx_T := kx_in (i := 198) (by decide +kernel) (by decide +kernel)
theorem kw_200 : Cond.fieldLink rr_Bk (28) "LineDesk$Breaks" "nextBegin" "[I" ∈ kx_T := kx_in (i := 200) (by decide +kernel) (by decide +kernel)
theorem kw_201 : Cond.fieldLink rr_Bk (31) "LineDesk$Breaks" "lowestBefore" "[I" ∈ kx_T := kx_in (i := 201) (by decide +kernel) (by decide +kernel)
theorem kw_203 : Cond.fieldLink rr_Bk (34) "LineDesk$Breaks" "hyphenated" "[Z" ∈ kx_T := kx_in (i := 203) (by decide +kernel) (by decide +kernel)
theorem kw_624 : Cond.methodLink rr_Bk (80) yy_It_isKind ∈ kx_T := kx_in (i := 624) (by decide +kernel) (by decide +kernel)
theorem kw_625 : Cond.methodLink rr_Bk (89) yy_It_hasFlag ∈ kx_T := kx_in (i := 625) (by decide +kernel) (by decide +kernel)
theorem kw_687 : Cond.methodLink rr_Bk (95) yy_Ma_min_0 ∈ kx_T := kx_in (i := 687) (by decide +kernel) (by decide +kernel)
theorem dd_Bk_append_0 : decode bb_Bk_append 0 = .ok (.aload_n 0, 1) := by decide +kernel
theorem dd_Bk_append_1 : decode bb_Bk_append 1 = .ok (.getfield 48, 3) := by decide +kernel
theorem dd_Bk_append_4 : decode bb_Bk_append 4 = .ok (.iconst 1, 1) := by decide +kernel
theorem dd_Bk_append_5 : decode bb_Bk_append 5 = .ok (.iadd, 1) := by decide +kernel
theorem dd_Bk_append_6 : decode bb_Bk_append 6 = .ok (.aload_n 0, 1) := by decide +kernel
theorem dd_Bk_append_7 : decode bb_Bk_append 7 = .ok (.getfield 15, 3) := by decide +kernel
theorem dd_Bk_append_10 : decode bb_Bk_append 10 = .ok (.arraylength, 1) := by decide +kernel
theorem dd_Bk_append_11 : decode bb_Bk_append 11 = .ok (.if_icmp .lt (4), 3) := by decide +kernel
theorem dd_Bk_append_14 : decode bb_Bk_append 14 = .ok (.return_, 1) := by decide +kernel
theorem dd_Bk_append_15 : decode bb_Bk_append 15 = .ok (.aload_n 0, 1) := by decide +kernel
theorem dd_Bk_append_16 : decode bb_Bk_append 16 = .ok (.dup, 1) := by decide +kernel
theorem dd_Bk_append_17 : decode bb_Bk_append 17 = .ok (.getfield 48, 3) := by decide +kernel
theorem dd_Bk_append_20 : decode bb_Bk_append 20 = .ok (.iconst 1, 1) := by decide +kernel
theorem dd_Bk_append_21 : decode bb_Bk_append 21 = .ok (.iadd, 1) := by decide +kernel
theorem dd_Bk_append_22 : decode bb_Bk_append 22 = .ok (.putfield 48, 3) := by decide +kernel
theorem dd_Bk_append_25 : decode bb_Bk_append 25 = .ok (.aload_n 0, 1) := by decide +kernel
theorem dd_Bk_append_26 : decode bb_Bk_append 26 = .ok (.getfield 15, 3) := by decide +kernel
theorem dd_Bk_append_29 : decode bb_Bk_append 29 = .ok (.aload_n 0, 1) := by decide +kernel
theorem dd_Bk_append_30 : decode bb_Bk_append 30 = .ok (.getfield 48, 3) := by decide +kernel
theorem dd_Bk_append_33 : decode bb_Bk_append 33 = .ok (.iload_n 1, 1) := by decide +kernel
theorem dd_Bk_append_34 : decode bb_Bk_append 34 = .ok (.iastore, 1) := by decide +kernel
theorem dd_Bk_append_35 : decode bb_Bk_append 35 = .ok (.aload_n 0, 1) := by decide +kernel
theorem dd_Bk_append_36 : decode bb_Bk_append 36 = .ok (.getfield 19, 3) := by decide +kernel
theorem dd_Bk_append_39 : decode bb_Bk_append 39 = .ok (.aload_n 0, 1) := by decide +kernel
theorem dd_Bk_append_40 : decode bb_Bk_append 40 = .ok (.getfield 48, 3) := by decide +kernel
theorem dd_Bk_append_43 : decode bb_Bk_append 43 = .ok (.iload_n 2, 1) := by decide +kernel
theorem dd_Bk_append_44 : decode bb_Bk_append 44 = .ok (.iastore, 1) := by decide +kernel
theorem dd_Bk_append_45 : decode bb_Bk_append 45 = .ok (.aload_n 0, 1) := by decide +kernel
theorem dd_Bk_append_46 : decode bb_Bk_append 46 = .ok (.getfield 22, 3) := by decide +kernel
theorem dd_Bk_append_49 : decode bb_Bk_append 49 = .ok (.aload_n 0, 1) := by decide +kernel
theorem dd_Bk_append_50 : decode bb_Bk_append 50 = .ok (.getfield 48, 3) := by decide +kernel
theorem dd_Bk_append_53 : decode bb_Bk_append 53 = .ok (.iconst 0, 1) := by decide +kernel
theorem dd_Bk_append_54 : decode bb_Bk_append 54 = .ok (.iastore, 1) := by decide +kernel
theorem dd_Bk_append_55 : decode bb_Bk_append 55 = .ok (.aload_n 0, 1) := by decide +kernel
theorem dd_Bk_append_56 : decode bb_Bk_append 56 = .ok (.getfield 25, 3) := by decide +kernel
theorem dd_Bk_append_59 : decode bb_Bk_append 59 = .ok (.aload_n 0, 1) := by decide +kernel
theorem dd_Bk_append_60 : decode bb_Bk_append 60 = .ok (.getfield 48, 3) := by decide +kernel
theorem dd_Bk_append_63 : decode bb_Bk_append 63 = .ok (.iconst 0, 1) := by decide +kernel
theorem dd_Bk_append_64 : decode bb_Bk_append 64 = .ok (.iastore, 1) := by decide +kernel
theorem dd_Bk_append_65 : decode bb_Bk_append 65 = .ok (.aload_n 0, 1) := by decide +kernel
theorem dd_Bk_append_66 : decode bb_Bk_append 66 = .ok (.getfield 28, 3) := by decide +kernel
theorem dd_Bk_append_69 : decode bb_Bk_append 69 = .ok (.aload_n 0, 1) := by decide +kernel
theorem dd_Bk_append_70 : decode bb_Bk_append 70 = .ok (.getfield 48, 3) := by decide +kernel
theorem dd_Bk_append_73 : decode bb_Bk_append 73 = .ok (.iload_n 1, 1) := by decide +kernel
theorem dd_Bk_append_74 : decode bb_Bk_append 74 = .ok (.iastore, 1) := by decide +kernel
theorem dd_Bk_append_75 : decode bb_Bk_append 75 = .ok (.aload_n 0, 1) := by decide +kernel
theorem dd_Bk_append_76 : decode bb_Bk_append 76 = .ok (.getfield 34, 3) := by decide +kernel
theorem dd_Bk_append_79 : decode bb_Bk_append 79 = .ok (.aload_n 0, 1) := by decide +kernel
theorem dd_Bk_append_80 : decode bb_Bk_append 80 = .ok (.getfield 48, 3) := by decide +kernel
theorem dd_Bk_append_83 : decode bb_Bk_append 83 = .ok (.iconst 0, 1) := by decide +kernel
theorem dd_Bk_append_84 : decode bb_Bk_append 84 = .ok (.bastore, 1) := by decide +kernel
theorem dd_Bk_append_85 : decode bb_Bk_append 85 = .ok (.aload_n 0, 1) := by decide +kernel
theorem dd_Bk_append_86 : decode bb_Bk_append 86 = .ok (.getfield 31, 3) := by decide +kernel
theorem dd_Bk_append_89 : decode bb_Bk_append 89 = .ok (.aload_n 0, 1) := by decide +kernel
theorem dd_Bk_append_90 : decode bb_Bk_append 90 = .ok (.getfield 48, 3) := by decide +kernel
theorem dd_Bk_append_93 : decode bb_Bk_append 93 = .ok (.aload_n 0, 1) := by decide +kernel
theorem dd_Bk_append_94 : decode bb_Bk_append 94 = .ok (.getfield 52, 3) := by decide +kernel
theorem dd_Bk_append_97 : decode bb_Bk_append 97 = .ok (.iastore, 1) := by decide +kernel
theorem dd_Bk_append_98 : decode bb_Bk_append 98 = .ok (.iload_n 2, 1) := by decide +kernel
theorem dd_Bk_append_99 : decode bb_Bk_append 99 = .ok (.sipush (-10000), 3) := by decide +kernel
theorem dd_Bk_append_102 : decode bb_Bk_append 102 = .ok (.if_icmp .gt (11), 3) := by decide +kernel
theorem dd_Bk_append_105 : decode bb_Bk_append 105 = .ok (.aload_n 0, 1) := by decide +kernel
theorem dd_Bk_append_106 : decode bb_Bk_append 106 = .ok (.aload_n 0, 1) := by decide +kernel
theorem dd_Bk_append_107 : decode bb_Bk_append 107 = .ok (.getfield 48, 3) := by decide +kernel
theorem dd_Bk_append_110 : decode bb_Bk_append 110 = .ok (.putfield 52, 3) := by decide +kernel
theorem dd_Bk_append_113 : decode bb_Bk_append 113 = .ok (.return_, 1) := by decide +kernel

set_option maxHeartbeats 4000000 in
set_option maxRecDepth 100000 in
theorem ct_Bk_append (l : Launch) (D : va_G) (cI cJ cZ : ClassId) (sz : Nat) (k : Nat) (bn : Nat) (lf : Nat) (j1 : Nat) (j2 : Nat) (j3 : Nat) (j4 : Nat) (j5 : Nat) (j6 : Nat) (j7 : Nat) (lk : Nat) (bi : Nat → Int32) (bo : Nat → Int32) (ba : Nat → Int32) (bb : Nat → Int32) (bg : Nat → Int32) (bl : Nat → Int32) (bh : Nat → Int32) (ni : Int32) (nc : Int32) (hb9 : bn + 1 < lk) (hlk : lk < 2 ^ 30) : kx_Mv l yy_Bk_append ww_Bk_append ({ frames := 0, cells := 0, slots := 0, locals := 0 }) D vwCl (kx_ty cI cJ cZ) [.ref k, .int ni, .int nc] [(k, .inr (2, [.int (nI bn), .int (nI lf), .ref j1, .ref j2, .ref j3, .ref j4, .ref j5, .ref j6, .ref j7])), (j1, .inl (cI, lk, .inl bi)), (j2, .inl (cI, lk, .inl bo)), (j3, .inl (cI, lk, .inl ba)), (j4, .inl (cI, lk, .inl bb)), (j5, .inl (cI, lk, .inl bg)), (j6, .inl (cI, lk, .inl bl)), (j7, .inl (cZ, lk, .inl bh))] sz (fun (u : Nat) => u = if (-10000) < nc then lf else bn + 1) (fun (u : Nat) => [(k, .inr (2, [.int (nI (bn + 1)), .int (nI u), .ref j1, .ref j2, .ref j3, .ref j4, .ref j5, .ref j6, .ref j7])), (j1, .inl (cI, lk, .inl (upd bi (bn + 1) ni))), (j2, .inl (cI, lk, .inl (upd bo (bn + 1) nc))), (j3, .inl (cI, lk, .inl (upd ba (bn + 1) (nI 0)))), (j4, .inl (cI, lk, .inl (upd bb (bn + 1) (nI 0)))), (j5, .inl (cI, lk, .inl (upd bg (bn + 1) ni))), (j6, .inl (cI, lk, .inl (upd bl (bn + 1) (nI lf)))), (j7, .inl (cZ, lk, .inl (upd bh (bn + 1) (nI 0))))]) 0 0 := by
  refine kx_startv (by decide) rfl (Nat.le_of_ble_eq_true rfl) ?_
  intro p e s m below meth c A ls hx hb hr hml hts hown hlocks hin hP hK hN hD hA hS hl
  have hl : lv_has ls 3 [(0, .ref k), (1, .int ni), (2, .int nc)] := hl
  have hown : s.vm.findClass rr_Bk = some m.cls := hown
  have lk0 := hts _ (kx_m kw_189)
  have hin2 : ∀ w ∈ u_ws rr_Bk tt_Bk 9, w ∈ ww_Bk_append := fun w h => kx_m (kf_Bk w h)
  have lk2 := hts _ (kx_m kw_191)
  have lk3 := hts _ (kx_m kw_194)
  have lk4 := hts _ (kx_m kw_196)
  have lk5 := hts _ (kx_m kw_198)
  have lk6 := hts _ (kx_m kw_200)
  have lk7 := hts _ (kx_m kw_203)
  have lk8 := hts _ (kx_m kw_201)
  have lk9 := hts _ (kx_m kw_190)
  obtain ⟨H, hH⟩ : ∃ H, H = s.heap := ⟨_, rfl⟩
  obtain ⟨locs, hlocs⟩ : ∃ z : List Loc, z = [] := ⟨_, rfl⟩
  have hP : va_P D vwCl [(k, .inr (2, [.int (nI bn), .int (nI lf), .ref j1, .ref j2, .ref j3, .ref j4, .ref j5, .ref j6, .ref j7])), (j1, .inl (cI, lk, .inl bi)), (j2, .inl (cI, lk, .inl bo)), (j3, .inl (cI, lk, .inl ba)), (j4, .inl (cI, lk, .inl bb)), (j5, .inl (cI, lk, .inl bg)), (j6, .inl (cI, lk, .inl bl)), (j7, .inl (cZ, lk, .inl bh))] H := by rw [hH]; exact hP
  have hS : va_S A s.heap H locs := by rw [hH, hlocs]; exact hS
  refine kx_gen hH hlocs ?_
  clear hH hlocs
  refine kx_nameQ (fun Q hQ => ?_)
  refine lv_aload_n hx hb dd_Bk_append_0 rfl (lv_at hl 0 rfl) ?_
  refine va_get (D := D) (ci := 2) (v := .int (nI bn)) (C := rr_Bk) (T := tt_Bk) (N := 9) hx hb hts hin2 hown hK hP 0 kg_8_0 rfl 0 (by decide) lk0 (fun _ h9 => h9) rfl dd_Bk_append_1 ?_
  refine lv_iconst (v := nI 1) hx hb dd_Bk_append_4 (by decide) ?_
  refine kx_iadd hx hb dd_Bk_append_5 ?_
  refine lv_aload_n hx hb dd_Bk_append_6 rfl (lv_at hl 0 rfl) ?_
  refine va_get (D := D) (ci := 2) (v := .ref j1) (C := rr_Bk) (T := tt_Bk) (N := 9) hx hb hts hin2 hown hK hP 0 kg_8_0 rfl 2 (by decide) lk2 (fun _ h9 => h9) rfl dd_Bk_append_7 ?_
  refine va_alen hx hb hK hP 1 0 kg_8_1 rfl (v := nI lk) rfl dd_Bk_append_10 ?_
  refine lv_icmp_lt (tgt := 15) hx hb dd_Bk_append_11 (by decide) (fun c11 => ?_) (fun c11 => ?_)
  · skip
    have c11 : (bn + 1) < lk := (nI_ltI (by omega) (by omega)).mp c11
    refine lv_aload_n hx hb dd_Bk_append_15 rfl (lv_at hl 0 rfl) ?_
    refine lv_dup hx hb dd_Bk_append_16 rfl ?_
    refine va_get (D := D) (ci := 2) (v := .int (nI bn)) (C := rr_Bk) (T := tt_Bk) (N := 9) hx hb hts hin2 hown hK hP 0 kg_8_0 rfl 0 (by decide) lk0 (fun _ h9 => h9) rfl dd_Bk_append_17 ?_
    refine lv_iconst (v := nI 1) hx hb dd_Bk_append_20 (by decide) ?_
    refine kx_iadd hx hb dd_Bk_append_21 ?_
    refine va_put (D := D) (ci := 2) (v := .int (nI (bn + 1))) (ty := .int) (C := rr_Bk) (T := tt_Bk) (N := 9) hx hb hts hin2 ft_Bk ft_Bk_ok nn_Bk hown hK hP hD hS 0 kg_8_0 rfl 0 (by decide) lk0 (fun _ h9 => h9) rfl (by decide +kernel) rfl rfl (Nat.le_of_ble_eq_true rfl) dd_Bk_append_22 (fun H locs hP hD hS => ?_)
    have hP : va_P D vwCl [(k, .inr (2, [.int (nI (bn + 1)), .int (nI lf), .ref j1, .ref j2, .ref j3, .ref j4, .ref j5, .ref j6, .ref j7])), (j1, .inl (cI, lk, .inl bi)), (j2, .inl (cI, lk, .inl bo)), (j3, .inl (cI, lk, .inl ba)), (j4, .inl (cI, lk, .inl bb)), (j5, .inl (cI, lk, .inl bg)), (j6, .inl (cI, lk, .inl bl)), (j7, .inl (cZ, lk, .inl bh))] H := kx_cP kz_8_0 hP
    have hD : va_D A [(k, .inr (2, [.int (nI (bn + 1)), .int (nI lf), .ref j1, .ref j2, .ref j3, .ref j4, .ref j5, .ref j6, .ref j7])), (j1, .inl (cI, lk, .inl bi)), (j2, .inl (cI, lk, .inl bo)), (j3, .inl (cI, lk, .inl ba)), (j4, .inl (cI, lk, .inl bb)), (j5, .inl (cI, lk, .inl bg)), (j6, .inl (cI, lk, .inl bl)), (j7, .inl (cZ, lk, .inl bh))] := kx_cD kz_8_0 hD
    refine lv_aload_n hx hb dd_Bk_append_25 rfl (lv_at hl 0 rfl) ?_
    refine va_get (D := D) (ci := 2) (v := .ref j1) (C := rr_Bk) (T := tt_Bk) (N := 9) hx hb hts hin2 hown hK hP 0 kg_8_0 rfl 2 (by decide) lk2 (fun _ h9 => h9) rfl dd_Bk_append_26 ?_
    refine lv_aload_n hx hb dd_Bk_append_29 rfl (lv_at hl 0 rfl) ?_
    refine va_get (D := D) (ci := 2) (v := .int (nI (bn + 1))) (C := rr_Bk) (T := tt_Bk) (N := 9) hx hb hts hin2 hown hK hP 0 kg_8_0 rfl 0 (by decide) lk0 (fun _ h9 => h9) rfl dd_Bk_append_30 ?_
    refine lv_iload_n hx hb dd_Bk_append_33 rfl (lv_at hl 1 rfl) ?_
    refine kx_iast (q0 := 1) (t0 := 0) hx hb dd_Bk_append_34 hK hP hD hS kg_8_1 rfl (by omega) (by omega) (fun H locs hP hD hS => ?_)
    have hP : va_P D vwCl [(k, .inr (2, [.int (nI (bn + 1)), .int (nI lf), .ref j1, .ref j2, .ref j3, .ref j4, .ref j5, .ref j6, .ref j7])), (j1, .inl (cI, lk, .inl (upd bi (bn + 1) ni))), (j2, .inl (cI, lk, .inl bo)), (j3, .inl (cI, lk, .inl ba)), (j4, .inl (cI, lk, .inl bb)), (j5, .inl (cI, lk, .inl bg)), (j6, .inl (cI, lk, .inl bl)), (j7, .inl (cZ, lk, .inl bh))] H := kx_cP kz_8_1 hP
    have hD : va_D A [(k, .inr (2, [.int (nI (bn + 1)), .int (nI lf), .ref j1, .ref j2, .ref j3, .ref j4, .ref j5, .ref j6, .ref j7])), (j1, .inl (cI, lk, .inl (upd bi (bn + 1) ni))), (j2, .inl (cI, lk, .inl bo)), (j3, .inl (cI, lk, .inl ba)), (j4, .inl (cI, lk, .inl bb)), (j5, .inl (cI, lk, .inl bg)), (j6, .inl (cI, lk, .inl bl)), (j7, .inl (cZ, lk, .inl bh))] := kx_cD kz_8_1 hD
    refine lv_aload_n hx hb dd_Bk_append_35 rfl (lv_at hl 0 rfl) ?_
    refine va_get (D := D) (ci := 2) (v := .ref j2) (C := rr_Bk) (T := tt_Bk) (N := 9) hx hb hts hin2 hown hK hP 0 kg_8_0 rfl 3 (by decide) lk3 (fun _ h9 => h9) rfl dd_Bk_append_36 ?_
    refine lv_aload_n hx hb dd_Bk_append_39 rfl (lv_at hl 0 rfl) ?_
    refine va_get (D := D) (ci := 2) (v := .int (nI (bn + 1))) (C := rr_Bk) (T := tt_Bk) (N := 9) hx hb hts hin2 hown hK hP 0 kg_8_0 rfl 0 (by decide) lk0 (fun _ h9 => h9) rfl dd_Bk_append_40 ?_
    refine lv_iload_n hx hb dd_Bk_append_43 rfl (lv_at hl 2 rfl) ?_
    refine kx_iast (q0 := 2) (t0 := 0) hx hb dd_Bk_append_44 hK hP hD hS kg_8_2 rfl (by omega) (by omega) (fun H locs hP hD hS => ?_)
    have hP : va_P D vwCl [(k, .inr (2, [.int (nI (bn + 1)), .int (nI lf), .ref j1, .ref j2, .ref j3, .ref j4, .ref j5, .ref j6, .ref j7])), (j1, .inl (cI, lk, .inl (upd bi (bn + 1) ni))), (j2, .inl (cI, lk, .inl (upd bo (bn + 1) nc))), (j3, .inl (cI, lk, .inl ba)), (j4, .inl (cI, lk, .inl bb)), (j5, .inl (cI, lk, .inl bg)), (j6, .inl (cI, lk, .inl bl)), (j7, .inl (cZ, lk, .inl bh))] H := kx_cP kz_8_2 hP
    have hD : va_D A [(k, .inr (2, [.int (nI (bn + 1)), .int (nI lf), .ref j1, .ref j2, .ref j3, .ref j4, .ref j5, .ref j6, .ref j7])), (j1, .inl (cI, lk, .inl (upd bi (bn + 1) ni))), (j2, .inl (cI, lk, .inl (upd bo (bn + 1) nc))), (j3, .inl (cI, lk, .inl ba)), (j4, .inl (cI, lk, .inl bb)), (j5, .inl (cI, lk, .inl bg)), (j6, .inl (cI, lk, .inl bl)), (j7, .inl (cZ, lk, .inl bh))] := kx_cD kz_8_2 hD
    refine lv_aload_n hx hb dd_Bk_append_45 rfl (lv_at hl 0 rfl) ?_
    refine va_get (D := D) (ci := 2) (v := .ref j3) (C := rr_Bk) (T := tt_Bk) (N := 9) hx hb hts hin2 hown hK hP 0 kg_8_0 rfl 4 (by decide) lk4 (fun _ h9 => h9) rfl dd_Bk_append_46 ?_
    refine lv_aload_n hx hb dd_Bk_append_49 rfl (lv_at hl 0 rfl) ?_
    refine va_get (D := D) (ci := 2) (v := .int (nI (bn + 1))) (C := rr_Bk) (T := tt_Bk) (N := 9) hx hb hts hin2 hown hK hP 0 kg_8_0 rfl 0 (by decide) lk0 (fun _ h9 => h9) rfl dd_Bk_append_50 ?_
    refine lv_iconst (v := nI 0) hx hb dd_Bk_append_53 (by decide) ?_
    refine kx_iast (q0 := 3) (t0 := 0) hx hb dd_Bk_append_54 hK hP hD hS kg_8_3 rfl (by omega) (by omega) (fun H locs hP hD hS => ?_)
    have hP : va_P D vwCl [(k, .inr (2, [.int (nI (bn + 1)), .int (nI lf), .ref j1, .ref j2, .ref j3, .ref j4, .ref j5, .ref j6, .ref j7])), (j1, .inl (cI, lk, .inl (upd bi (bn + 1) ni))), (j2, .inl (cI, lk, .inl (upd bo (bn + 1) nc))), (j3, .inl (cI, lk, .inl (upd ba (bn + 1) (nI 0)))), (j4, .inl (cI, lk, .inl bb)), (j5, .inl (cI, lk, .inl bg)), (j6, .inl (cI, lk, .inl bl)), (j7, .inl (cZ, lk, .inl bh))] H := kx_cP kz_8_3 hP
    have hD : va_D A [(k, .inr (2, [.int (nI (bn + 1)), .int (nI lf), .ref j1, .ref j2, .ref j3, .ref j4, .ref j5, .ref j6, .ref j7])), (j1, .inl (cI, lk, .inl (upd bi (bn + 1) ni))), (j2, .inl (cI, lk, .inl (upd bo (bn + 1) nc))), (j3, .inl (cI, lk, .inl (upd ba (bn + 1) (nI 0)))), (j4, .inl (cI, lk, .inl bb)), (j5, .inl (cI, lk, .inl bg)), (j6, .inl (cI, lk, .inl bl)), (j7, .inl (cZ, lk, .inl bh))] := kx_cD kz_8_3 hD
    refine lv_aload_n hx hb dd_Bk_append_55 rfl (lv_at hl 0 rfl) ?_
    refine va_get (D := D) (ci := 2) (v := .ref j4) (C := rr_Bk) (T := tt_Bk) (N := 9) hx hb hts hin2 hown hK hP 0 kg_8_0 rfl 5 (by decide) lk5 (fun _ h9 => h9) rfl dd_Bk_append_56 ?_
    refine lv_aload_n hx hb dd_Bk_append_59 rfl (lv_at hl 0 rfl) ?_
    refine va_get (D := D) (ci := 2) (v := .int (nI (bn + 1))) (C := rr_Bk) (T := tt_Bk) (N := 9) hx hb hts hin2 hown hK hP 0 kg_8_0 rfl 0 (by decide) lk0 (fun _ h9 => h9) rfl dd_Bk_append_60 ?_
    refine lv_iconst (v := nI 0) hx hb dd_Bk_append_63 (by decide) ?_
    refine kx_iast (q0 := 4) (t0 := 0) hx hb dd_Bk_append_64 hK hP hD hS kg_8_4 rfl (by omega) (by omega) (fun H locs hP hD hS => ?_)
    have hP : va_P D vwCl [(k, .inr (2, [.int (nI (bn + 1)), .int (nI lf), .ref j1, .ref j2, .ref j3, .ref j4, .ref j5, .ref j6, .ref j7])), (j1, .inl (cI, lk, .inl (upd bi (bn + 1) ni))), (j2, .inl (cI, lk, .inl (upd bo (bn + 1) nc))), (j3, .inl (cI, lk, .inl (upd ba (bn + 1) (nI 0)))), (j4, .inl (cI, lk, .inl (upd bb (bn + 1) (nI 0)))), (j5, .inl (cI, lk, .inl bg)), (j6, .inl (cI, lk, .inl bl)), (j7, .inl (cZ, lk, .inl bh))] H := kx_cP kz_8_4 hP
    have hD : va_D A [(k, .inr (2, [.int (nI (bn + 1)), .int (nI lf), .ref j1, .ref j2, .ref j3, .ref j4, .ref j5, .ref j6, .ref j7])), (j1, .inl (cI, lk, .inl (upd bi (bn + 1) ni))), (j2, .inl (cI, lk, .inl (upd bo (bn + 1) nc))), (j3, .inl (cI, lk, .inl (upd ba (bn + 1) (nI 0)))), (j4, .inl (cI, lk, .inl (upd bb (bn + 1) (nI 0)))), (j5, .inl (cI, lk, .inl bg)), (j6, .inl (cI, lk, .inl bl)), (j7, .inl (cZ, lk, .inl bh))] := kx_cD kz_8_4 hD
    refine lv_aload_n hx hb dd_Bk_append_65 rfl (lv_at hl 0 rfl) ?_
    refine va_get (D := D) (ci := 2) (v := .ref j5) (C := rr_Bk) (T := tt_Bk) (N := 9) hx hb hts hin2 hown hK hP 0 kg_8_0 rfl 6 (by decide) lk6 (fun _ h9 => h9) rfl dd_Bk_append_66 ?_
    refine lv_aload_n hx hb dd_Bk_append_69 rfl (lv_at hl 0 rfl) ?_
    refine va_get (D := D) (ci := 2) (v := .int (nI (bn + 1))) (C := rr_Bk) (T := tt_Bk) (N := 9) hx hb hts hin2 hown hK hP 0 kg_8_0 rfl 0 (by decide) lk0 (fun _ h9 => h9) rfl dd_Bk_append_70 ?_
    refine lv_iload_n hx hb dd_Bk_append_73 rfl (lv_at hl 1 rfl) ?_
    refine kx_iast (q0 := 5) (t0 := 0) hx hb dd_Bk_append_74 hK hP hD hS kg_8_5 rfl (by omega) (by omega) (fun H locs hP hD hS => ?_)
    have hP : va_P D vwCl [(k, .inr (2, [.int (nI (bn + 1)), .int (nI lf), .ref j1, .ref j2, .ref j3, .ref j4, .ref j5, .ref j6, .ref j7])), (j1, .inl (cI, lk, .inl (upd bi (bn + 1) ni))), (j2, .inl (cI, lk, .inl (upd bo (bn + 1) nc))), (j3, .inl (cI, lk, .inl (upd ba (bn + 1) (nI 0)))), (j4, .inl (cI, lk, .inl (upd bb (bn + 1) (nI 0)))), (j5, .inl (cI, lk, .inl (upd bg (bn + 1) ni))), (j6, .inl (cI, lk, .inl bl)), (j7, .inl (cZ, lk, .inl bh))] H := kx_cP kz_8_5 hP
    have hD : va_D A [(k, .inr (2, [.int (nI (bn + 1)), .int (nI lf), .ref j1, .ref j2, .ref j3, .ref j4, .ref j5, .ref j6, .ref j7])), (j1, .inl (cI, lk, .inl (upd bi (bn + 1) ni))), (j2, .inl (cI, lk, .inl (upd bo (bn + 1) nc))), (j3, .inl (cI, lk, .inl (upd ba (bn + 1) (nI 0)))), (j4, .inl (cI, lk, .inl (upd bb (bn + 1) (nI 0)))), (j5, .inl (cI, lk, .inl (upd bg (bn + 1) ni))), (j6, .inl (cI, lk, .inl bl)), (j7, .inl (cZ, lk, .inl bh))] := kx_cD kz_8_5 hD
    refine lv_aload_n hx hb dd_Bk_append_75 rfl (lv_at hl 0 rfl) ?_
    refine va_get (D := D) (ci := 2) (v := .ref j7) (C := rr_Bk) (T := tt_Bk) (N := 9) hx hb hts hin2 hown hK hP 0 kg_8_0 rfl 8 (by decide) lk7 (fun _ h9 => h9) rfl dd_Bk_append_76 ?_
    refine lv_aload_n hx hb dd_Bk_append_79 rfl (lv_at hl 0 rfl) ?_
    refine va_get (D := D) (ci := 2) (v := .int (nI (bn + 1))) (C := rr_Bk) (T := tt_Bk) (N := 9) hx hb hts hin2 hown hK hP 0 kg_8_0 rfl 0 (by decide) lk0 (fun _ h9 => h9) rfl dd_Bk_append_80 ?_
    refine lv_iconst (v := nI 0) hx hb dd_Bk_append_83 (by decide) ?_
    refine kx_zast (q0 := 7) (t0 := 2) hx hb dd_Bk_append_84 hK hP hD hS kg_8_7 rfl (by omega) (by omega) (by decide) (fun H locs hP hD hS => ?_)
    have hP : va_P D vwCl [(k, .inr (2, [.int (nI (bn + 1)), .int (nI lf), .ref j1, .ref j2, .ref j3, .ref j4, .ref j5, .ref j6, .ref j7])), (j1, .inl (cI, lk, .inl (upd bi (bn + 1) ni))), (j2, .inl (cI, lk, .inl (upd bo (bn + 1) nc))), (j3, .inl (cI, lk, .inl (upd ba (bn + 1) (nI 0)))), (j4, .inl (cI, lk, .inl (upd bb (bn + 1) (nI 0)))), (j5, .inl (cI, lk, .inl (upd bg (bn + 1) ni))), (j6, .inl (cI, lk, .inl bl)), (j7, .inl (cZ, lk, .inl (upd bh (bn + 1) (nI 0))))] H := kx_cP kz_8_7 hP
    have hD : va_D A [(k, .inr (2, [.int (nI (bn + 1)), .int (nI lf), .ref j1, .ref j2, .ref j3, .ref j4, .ref j5, .ref j6, .ref j7])), (j1, .inl (cI, lk, .inl (upd bi (bn + 1) ni))), (j2, .inl (cI, lk, .inl (upd bo (bn + 1) nc))), (j3, .inl (cI, lk, .inl (upd ba (bn + 1) (nI 0)))), (j4, .inl (cI, lk, .inl (upd bb (bn + 1) (nI 0)))), (j5, .inl (cI, lk, .inl (upd bg (bn + 1) ni))), (j6, .inl (cI, lk, .inl bl)), (j7, .inl (cZ, lk, .inl (upd bh (bn + 1) (nI 0))))] := kx_cD kz_8_7 hD
    refine lv_aload_n hx hb dd_Bk_append_85 rfl (lv_at hl 0 rfl) ?_
    refine va_get (D := D) (ci := 2) (v := .ref j6) (C := rr_Bk) (T := tt_Bk) (N := 9) hx hb hts hin2 hown hK hP 0 kg_8_0 rfl 7 (by decide) lk8 (fun _ h9 => h9) rfl dd_Bk_append_86 ?_
    refine lv_aload_n hx hb dd_Bk_append_89 rfl (lv_at hl 0 rfl) ?_
    refine va_get (D := D) (ci := 2) (v := .int (nI (bn + 1))) (C := rr_Bk) (T := tt_Bk) (N := 9) hx hb hts hin2 hown hK hP 0 kg_8_0 rfl 0 (by decide) lk0 (fun _ h9 => h9) rfl dd_Bk_append_90 ?_
    refine lv_aload_n hx hb dd_Bk_append_93 rfl (lv_at hl 0 rfl) ?_
    refine va_get (D := D) (ci := 2) (v := .int (nI lf)) (C := rr_Bk) (T := tt_Bk) (N := 9) hx hb hts hin2 hown hK hP 0 kg_8_0 rfl 1 (by decide) lk9 (fun _ h9 => h9) rfl dd_Bk_append_94 ?_
    refine kx_iast (q0 := 6) (t0 := 0) hx hb dd_Bk_append_97 hK hP hD hS kg_8_6 rfl (by omega) (by omega) (fun H locs hP hD hS => ?_)
    have hP : va_P D vwCl [(k, .inr (2, [.int (nI (bn + 1)), .int (nI lf), .ref j1, .ref j2, .ref j3, .ref j4, .ref j5, .ref j6, .ref j7])), (j1, .inl (cI, lk, .inl (upd bi (bn + 1) ni))), (j2, .inl (cI, lk, .inl (upd bo (bn + 1) nc))), (j3, .inl (cI, lk, .inl (upd ba (bn + 1) (nI 0)))), (j4, .inl (cI, lk, .inl (upd bb (bn + 1) (nI 0)))), (j5, .inl (cI, lk, .inl (upd bg (bn + 1) ni))), (j6, .inl (cI, lk, .inl (upd bl (bn + 1) (nI lf)))), (j7, .inl (cZ, lk, .inl (upd bh (bn + 1) (nI 0))))] H := kx_cP kz_8_6 hP
    have hD : va_D A [(k, .inr (2, [.int (nI (bn + 1)), .int (nI lf), .ref j1, .ref j2, .ref j3, .ref j4, .ref j5, .ref j6, .ref j7])), (j1, .inl (cI, lk, .inl (upd bi (bn + 1) ni))), (j2, .inl (cI, lk, .inl (upd bo (bn + 1) nc))), (j3, .inl (cI, lk, .inl (upd ba (bn + 1) (nI 0)))), (j4, .inl (cI, lk, .inl (upd bb (bn + 1) (nI 0)))), (j5, .inl (cI, lk, .inl (upd bg (bn + 1) ni))), (j6, .inl (cI, lk, .inl (upd bl (bn + 1) (nI lf)))), (j7, .inl (cZ, lk, .inl (upd bh (bn + 1) (nI 0))))] := kx_cD kz_8_6 hD
    refine lv_iload_n hx hb dd_Bk_append_98 rfl (lv_at hl 2 rfl) ?_
    refine lv_sipush (v := (-10000)) hx hb dd_Bk_append_99 (by decide) ?_
    refine lv_icmp_gt (tgt := 113) hx hb dd_Bk_append_102 (by decide) (fun c102 => ?_) (fun c102 => ?_)
    · skip
      rw [hQ]
      exact kx_vret hx hb hr hlocks hK hN hS dd_Bk_append_113 lf hP hD (by first | rw [if_pos c102] | rw [if_neg c102])
    · skip
      refine lv_aload_n hx hb dd_Bk_append_105 rfl (lv_at hl 0 rfl) ?_
      refine lv_aload_n hx hb dd_Bk_append_106 rfl (lv_at hl 0 rfl) ?_
      refine va_get (D := D) (ci := 2) (v := .int (nI (bn + 1))) (C := rr_Bk) (T := tt_Bk) (N := 9) hx hb hts hin2 hown hK hP 0 kg_8_0 rfl 0 (by decide) lk0 (fun _ h9 => h9) rfl dd_Bk_append_107 ?_
      refine va_put (D := D) (ci := 2) (v := .int (nI (bn + 1))) (ty := .int) (C := rr_Bk) (T := tt_Bk) (N := 9) hx hb hts hin2 ft_Bk ft_Bk_ok nn_Bk hown hK hP hD hS 0 kg_8_0 rfl 1 (by decide) lk9 (fun _ h9 => h9) rfl (by decide +kernel) rfl rfl (Nat.le_of_ble_eq_true rfl) dd_Bk_append_110 (fun H locs hP hD hS => ?_)
      have hP : va_P D vwCl [(k, .inr (2, [.int (nI (bn + 1)), .int (nI (bn + 1)), .ref j1, .ref j2, .ref j3, .ref j4, .ref j5, .ref j6, .ref j7])), (j1, .inl (cI, lk, .inl (upd bi (bn + 1) ni))), (j2, .inl (cI, lk, .inl (upd bo (bn + 1) nc))), (j3, .inl (cI, lk, .inl (upd ba (bn + 1) (nI 0)))), (j4, .inl (cI, lk, .inl (upd bb (bn + 1) (nI 0)))), (j5, .inl (cI, lk, .inl (upd bg (bn + 1) ni))), (j6, .inl (cI, lk, .inl (upd bl (bn + 1) (nI lf)))), (j7, .inl (cZ, lk, .inl (upd bh (bn + 1) (nI 0))))] H := kx_cP kz_8_0 hP
      have hD : va_D A [(k, .inr (2, [.int (nI (bn + 1)), .int (nI (bn + 1)), .ref j1, .ref j2, .ref j3, .ref j4, .ref j5, .ref j6, .ref j7])), (j1, .inl (cI, lk, .inl (upd bi (bn + 1) ni))), (j2, .inl (cI, lk, .inl (upd bo (bn + 1) nc))), (j3, .inl (cI, lk, .inl (upd ba (bn + 1) (nI 0)))), (j4, .inl (cI, lk, .inl (upd bb (bn + 1) (nI 0)))), (j5, .inl (cI, lk, .inl (upd bg (bn + 1) ni))), (j6, .inl (cI, lk, .inl (upd bl (bn + 1) (nI lf)))), (j7, .inl (cZ, lk, .inl (upd bh (bn + 1) (nI 0))))] := kx_cD kz_8_0 hD
      rw [hQ]
      exact kx_vret hx hb hr hlocks hK hN hS dd_Bk_append_113 (bn + 1) hP hD (by first | rw [if_pos c102] | rw [if_neg c102])
  · skip
    have c11 : ¬ ((bn + 1) < lk) := fun h => c11 ((nI_ltI (by omega) (by omega)).mpr h)
    exact absurd hb9 c11

theorem dd_Bk_settle_0 : decode bb_Bk_settle 0 = .ok (.iload_n 1, 1) := by decide +kernel
theorem dd_Bk_settle_1 : decode bb_Bk_settle 1 = .ok (.iconst 1, 1) := by decide +kernel
theorem dd_Bk_settle_2 : decode bb_Bk_settle 2 = .ok (.iadd, 1) := by decide +kernel
theorem dd_Bk_settle_3 : decode bb_Bk_settle 3 = .ok (.istore_n 3, 1) := by decide +kernel
theorem dd_Bk_settle_4 : decode bb_Bk_settle 4 = .ok (.iload_n 3, 1) := by decide +kernel
theorem dd_Bk_settle_5 : decode bb_Bk_settle 5 = .ok (.aload_n 0, 1) := by decide +kernel
theorem dd_Bk_settle_6 : decode bb_Bk_settle 6 = .ok (.getfield 48, 3) := by decide +kernel
theorem dd_Bk_settle_9 : decode bb_Bk_settle 9 = .ok (.if_icmp .gt (31), 3) := by decide +kernel
theorem dd_Bk_settle_12 : decode bb_Bk_settle 12 = .ok (.aload_n 0, 1) := by decide +kernel
theorem dd_Bk_settle_13 : decode bb_Bk_settle 13 = .ok (.getfield 28, 3) := by decide +kernel
theorem dd_Bk_settle_16 : decode bb_Bk_settle 16 = .ok (.iload_n 3, 1) := by decide +kernel
theorem dd_Bk_settle_17 : decode bb_Bk_settle 17 = .ok (.iaload, 1) := by decide +kernel
theorem dd_Bk_settle_18 : decode bb_Bk_settle 18 = .ok (.aload_n 0, 1) := by decide +kernel
theorem dd_Bk_settle_19 : decode bb_Bk_settle 19 = .ok (.getfield 15, 3) := by decide +kernel
theorem dd_Bk_settle_22 : decode bb_Bk_settle 22 = .ok (.iload_n 3, 1) := by decide +kernel
theorem dd_Bk_settle_23 : decode bb_Bk_settle 23 = .ok (.iaload, 1) := by decide +kernel
theorem dd_Bk_settle_24 : decode bb_Bk_settle 24 = .ok (.if_icmp .ne (10), 3) := by decide +kernel
theorem dd_Bk_settle_27 : decode bb_Bk_settle 27 = .ok (.aload_n 0, 1) := by decide +kernel
theorem dd_Bk_settle_28 : decode bb_Bk_settle 28 = .ok (.getfield 28, 3) := by decide +kernel
theorem dd_Bk_settle_31 : decode bb_Bk_settle 31 = .ok (.iload_n 3, 1) := by decide +kernel
theorem dd_Bk_settle_32 : decode bb_Bk_settle 32 = .ok (.iload_n 2, 1) := by decide +kernel
theorem dd_Bk_settle_33 : decode bb_Bk_settle 33 = .ok (.iastore, 1) := by decide +kernel
theorem dd_Bk_settle_34 : decode bb_Bk_settle 34 = .ok (.iinc 3 (1), 3) := by decide +kernel
theorem dd_Bk_settle_37 : decode bb_Bk_settle 37 = .ok (.goto (-33), 3) := by decide +kernel
theorem dd_Bk_settle_40 : decode bb_Bk_settle 40 = .ok (.aload_n 0, 1) := by decide +kernel
theorem dd_Bk_settle_41 : decode bb_Bk_settle 41 = .ok (.getfield 48, 3) := by decide +kernel
theorem dd_Bk_settle_44 : decode bb_Bk_settle 44 = .ok (.ireturn, 1) := by decide +kernel

set_option maxHeartbeats 4000000 in
set_option maxRecDepth 100000 in
theorem ct_Bk_settle (l : Launch) (D : va_G) (cI cJ cZ : ClassId) (sz : Nat) (k : Nat) (bn : Nat) (lf : Nat) (j1 : Nat) (j2 : Nat) (j3 : Nat) (j4 : Nat) (j5 : Nat) (j6 : Nat) (j7 : Nat) (lk : Nat) (bi : Nat → Int32) (bg : Nat → Int32) (sd : Nat) (be : Int32) (hs : sd ≤ bn) (hb9 : bn < lk) (hlk : lk < 2 ^ 30) : kx_Mi l yy_Bk_settle ww_Bk_settle ({ frames := 0, cells := 0, slots := 0, locals := 0 }) D vwCl (kx_ty cI cJ cZ) [.ref k, .int (nI sd), .int be] [(k, .inr (2, [.int (nI bn), .int (nI lf), .ref j1, .ref j2, .ref j3, .ref j4, .ref j5, .ref j6, .ref j7])), (j1, .inl (cI, lk, .inl bi)), (j5, .inl (cI, lk, .inl bg))] sz (fun (r : Int32) (u : (Nat → Int32)) => (r = nI bn) ∧ (∀ y, u y = if sd < y ∧ y ≤ bn ∧ bg y = bi y then be else bg y)) (fun (u : (Nat → Int32)) => [(k, .inr (2, [.int (nI bn), .int (nI lf), .ref j1, .ref j2, .ref j3, .ref j4, .ref j5, .ref j6, .ref j7])), (j1, .inl (cI, lk, .inl bi)), (j5, .inl (cI, lk, .inl u))]) 0 0 := by
  refine kx_starti (by decide) rfl (Nat.le_of_ble_eq_true rfl) ?_
  intro p e s m below meth c A ls hx hb hr hml hts hown hlocks hin hP hK hN hD hA hS hl
  have hl : lv_has ls 4 [(0, .ref k), (1, .int (nI sd)), (2, .int be)] := hl
  have hown : s.vm.findClass rr_Bk = some m.cls := hown
  have lk0 := hts _ (kx_m kw_189)
  have hin2 : ∀ w ∈ u_ws rr_Bk tt_Bk 9, w ∈ ww_Bk_settle := fun w h => kx_m (kf_Bk w h)
  have lk2 := hts _ (kx_m kw_200)
  have lk3 := hts _ (kx_m kw_191)
  obtain ⟨H, hH⟩ : ∃ H, H = s.heap := ⟨_, rfl⟩
  obtain ⟨locs, hlocs⟩ : ∃ z : List Loc, z = [] := ⟨_, rfl⟩
  have hP : va_P D vwCl [(k, .inr (2, [.int (nI bn), .int (nI lf), .ref j1, .ref j2, .ref j3, .ref j4, .ref j5, .ref j6, .ref j7])), (j1, .inl (cI, lk, .inl bi)), (j5, .inl (cI, lk, .inl bg))] H := by rw [hH]; exact hP
  have hS : va_S A s.heap H locs := by rw [hH, hlocs]; exact hS
  refine kx_gen hH hlocs ?_
  clear hH hlocs
  refine kx_nameQ (fun Q hQ => ?_)
  refine lv_iload_n hx hb dd_Bk_settle_0 rfl (lv_at hl 1 rfl) ?_
  refine lv_iconst (v := nI 1) hx hb dd_Bk_settle_1 (by decide) ?_
  refine kx_iadd hx hb dd_Bk_settle_2 ?_
  refine lv_istore_n (lv' := [(3, .int (nI (sd + 1))), (0, .ref k), (1, .int (nI sd)), (2, .int be)]) hx hb dd_Bk_settle_3 rfl hl (by decide) rfl (fun ls hl => ?_)
  have lp4 : ∀ (N9_4 : Nat) (x1 : Nat) (g1 : Nat → Int32), (bn + 1 - x1) < N9_4 → (sd + 1 ≤ x1) → (x1 ≤ bn + 1) → (∀ y, g1 y = if sd < y ∧ y < x1 ∧ bg y = bi y then be else bg y) → ∀ (H : Heap) (locs : List Loc), va_P D vwCl [(k, .inr (2, [.int (nI bn), .int (nI lf), .ref j1, .ref j2, .ref j3, .ref j4, .ref j5, .ref j6, .ref j7])), (j1, .inl (cI, lk, .inl bi)), (j5, .inl (cI, lk, .inl g1))] H → va_D A [(k, .inr (2, [.int (nI bn), .int (nI lf), .ref j1, .ref j2, .ref j3, .ref j4, .ref j5, .ref j6, .ref j7])), (j1, .inl (cI, lk, .inl bi)), (j5, .inl (cI, lk, .inl g1))] → va_S A s.heap H locs → ∀ (ls : Array Slot), lv_has ls 4 [(0, .ref k), (1, .int (nI sd)), (2, .int be), (3, .int (nI x1))] → W p l e (headSpec ww_Bk_settle { frames := 0, cells := 0, slots := 0, locals := 0 }).room s m ([.ref k, .int (nI sd), .int be] : List Value).toArray below meth c H locs 0 0 Q (F0 m 4 ls []) := by
    clear hP hD hS hl
    intro N9_4
    induction N9_4 with
    | zero => intro _ _ h9; exact absurd h9 (Nat.not_lt_zero _)
    | succ N9_4 ih_4 =>
      intro x1 g1 hμ_4 h1 h2 hg H locs hP hD hS ls hl
      refine lv_iload_n hx hb dd_Bk_settle_4 rfl (lv_at hl 3 rfl) ?_
      refine lv_aload_n hx hb dd_Bk_settle_5 rfl (lv_at hl 0 rfl) ?_
      refine va_get (D := D) (ci := 2) (v := .int (nI bn)) (C := rr_Bk) (T := tt_Bk) (N := 9) hx hb hts hin2 hown hK hP 0 kg_3_0 rfl 0 (by decide) lk0 (fun _ h9 => h9) rfl dd_Bk_settle_6 ?_
      refine lv_icmp_gt (tgt := 40) hx hb dd_Bk_settle_9 (by decide) (fun c9 => ?_) (fun c9 => ?_)
      · skip
        have c9 : bn < x1 := (nI_ltI (by omega) (by omega)).mp c9
        refine lv_aload_n hx hb dd_Bk_settle_40 rfl (lv_at hl 0 rfl) ?_
        refine va_get (D := D) (ci := 2) (v := .int (nI bn)) (C := rr_Bk) (T := tt_Bk) (N := 9) hx hb hts hin2 hown hK hP 0 kg_3_0 rfl 0 (by decide) lk0 (fun _ h9 => h9) rfl dd_Bk_settle_41 ?_
        rw [hQ]
        exact kx_iret hx hb hr hlocks hK hN hS dd_Bk_settle_44 g1 hP hD (⟨rfl, fun y => by have h9 := hg y; rw [show x1 = bn + 1 by omega] at h9; rw [h9]; congr 1; exact propext ⟨fun q => ⟨q.1, by omega, q.2.2⟩, fun q => ⟨q.1, by omega, q.2.2⟩⟩⟩)
      · skip
        have c9 : ¬ (bn < x1) := fun h => c9 ((nI_ltI (by omega) (by omega)).mpr h)
        refine lv_aload_n hx hb dd_Bk_settle_12 rfl (lv_at hl 0 rfl) ?_
        refine va_get (D := D) (ci := 2) (v := .ref j5) (C := rr_Bk) (T := tt_Bk) (N := 9) hx hb hts hin2 hown hK hP 0 kg_3_0 rfl 6 (by decide) lk2 (fun _ h9 => h9) rfl dd_Bk_settle_13 ?_
        refine lv_iload_n hx hb dd_Bk_settle_16 rfl (lv_at hl 3 rfl) ?_
        refine kx_iald (q0 := 2) (t0 := 0) hx hb dd_Bk_settle_17 hK hP kg_3_2 rfl (by omega) (by omega) ?_
        refine lv_aload_n hx hb dd_Bk_settle_18 rfl (lv_at hl 0 rfl) ?_
        refine va_get (D := D) (ci := 2) (v := .ref j1) (C := rr_Bk) (T := tt_Bk) (N := 9) hx hb hts hin2 hown hK hP 0 kg_3_0 rfl 2 (by decide) lk3 (fun _ h9 => h9) rfl dd_Bk_settle_19 ?_
        refine lv_iload_n hx hb dd_Bk_settle_22 rfl (lv_at hl 3 rfl) ?_
        refine kx_iald (q0 := 1) (t0 := 0) hx hb dd_Bk_settle_23 hK hP kg_3_1 rfl (by omega) (by omega) ?_
        refine lv_icmp_ne (tgt := 34) hx hb dd_Bk_settle_24 (by decide) (fun c24 => ?_) (fun c24 => ?_)
        · skip
          refine lv_iinc (v := nI (x1 + 1)) (lv' := [(3, .int (nI (x1 + 1))), (0, .ref k), (1, .int (nI sd)), (2, .int be)]) hx hb dd_Bk_settle_34 hl (k := 3) rfl (nI_add x1 1) (by decide) rfl (fun ls hl => ?_)
          refine lv_goto (tgt := 4) hx hb dd_Bk_settle_37 (by decide) ?_
          exact ih_4 (x1 + 1) g1 (by omega) (by omega) (by omega) (by first | exact fun y => pk_set1 h1 hg c24 y | exact fun y => pk_set0 h1 hg c24 y) H locs hP hD hS ls (lv_sub hl [1, 2, 3, 0] rfl)
        · skip
          refine lv_aload_n hx hb dd_Bk_settle_27 rfl (lv_at hl 0 rfl) ?_
          refine va_get (D := D) (ci := 2) (v := .ref j5) (C := rr_Bk) (T := tt_Bk) (N := 9) hx hb hts hin2 hown hK hP 0 kg_3_0 rfl 6 (by decide) lk2 (fun _ h9 => h9) rfl dd_Bk_settle_28 ?_
          refine lv_iload_n hx hb dd_Bk_settle_31 rfl (lv_at hl 3 rfl) ?_
          refine lv_iload_n hx hb dd_Bk_settle_32 rfl (lv_at hl 2 rfl) ?_
          refine kx_iast (q0 := 2) (t0 := 0) hx hb dd_Bk_settle_33 hK hP hD hS kg_3_2 rfl (by omega) (by omega) (fun H locs hP hD hS => ?_)
          have hP : va_P D vwCl [(k, .inr (2, [.int (nI bn), .int (nI lf), .ref j1, .ref j2, .ref j3, .ref j4, .ref j5, .ref j6, .ref j7])), (j1, .inl (cI, lk, .inl bi)), (j5, .inl (cI, lk, .inl (upd g1 x1 be)))] H := kx_cP kz_3_2 hP
          have hD : va_D A [(k, .inr (2, [.int (nI bn), .int (nI lf), .ref j1, .ref j2, .ref j3, .ref j4, .ref j5, .ref j6, .ref j7])), (j1, .inl (cI, lk, .inl bi)), (j5, .inl (cI, lk, .inl (upd g1 x1 be)))] := kx_cD kz_3_2 hD
          refine lv_iinc (v := nI (x1 + 1)) (lv' := [(3, .int (nI (x1 + 1))), (0, .ref k), (1, .int (nI sd)), (2, .int be)]) hx hb dd_Bk_settle_34 hl (k := 3) rfl (nI_add x1 1) (by decide) rfl (fun ls hl => ?_)
          refine lv_goto (tgt := 4) hx hb dd_Bk_settle_37 (by decide) ?_
          exact ih_4 (x1 + 1) (upd g1 x1 be) (by omega) (by omega) (by omega) (by first | exact fun y => pk_set1 h1 hg c24 y | exact fun y => pk_set0 h1 hg c24 y) H locs hP hD hS ls (lv_sub hl [1, 2, 3, 0] rfl)
  exact lp4 ((bn + 1 - (sd + 1)) + 1) (sd + 1) bg (Nat.lt_succ_self _) (by omega) (by omega) (fun y => by rw [if_neg (by omega)]) H locs hP hD hS ls (lv_sub hl [1, 2, 3, 0] rfl)

theorem dd_Bk_beginOf_0 : decode bb_Bk_beginOf 0 = .ok (.aload_n 0, 1) := by decide +kernel
theorem dd_Bk_beginOf_1 : decode bb_Bk_beginOf 1 = .ok (.getfield 28, 3) := by decide +kernel
theorem dd_Bk_beginOf_4 : decode bb_Bk_beginOf 4 = .ok (.iload_n 1, 1) := by decide +kernel
theorem dd_Bk_beginOf_5 : decode bb_Bk_beginOf 5 = .ok (.iaload, 1) := by decide +kernel
theorem dd_Bk_beginOf_6 : decode bb_Bk_beginOf 6 = .ok (.aload_n 0, 1) := by decide +kernel
theorem dd_Bk_beginOf_7 : decode bb_Bk_beginOf 7 = .ok (.getfield 15, 3) := by decide +kernel
theorem dd_Bk_beginOf_10 : decode bb_Bk_beginOf 10 = .ok (.iload_n 2, 1) := by decide +kernel
theorem dd_Bk_beginOf_11 : decode bb_Bk_beginOf 11 = .ok (.iaload, 1) := by decide +kernel
theorem dd_Bk_beginOf_12 : decode bb_Bk_beginOf 12 = .ok (.invokestatic 95, 3) := by decide +kernel
theorem dd_Bk_beginOf_15 : decode bb_Bk_beginOf 15 = .ok (.ireturn, 1) := by decide +kernel

set_option maxHeartbeats 4000000 in
set_option maxRecDepth 100000 in
theorem ct_Bk_beginOf (l : Launch) (D : va_G) (cI cJ cZ : ClassId) (sz : Nat) (k : Nat) (bn : Nat) (lf : Nat) (j1 : Nat) (j2 : Nat) (j3 : Nat) (j4 : Nat) (j5 : Nat) (j6 : Nat) (j7 : Nat) (lk : Nat) (bi : Nat → Int32) (bg : Nat → Int32) (x : Nat) (y : Nat) (hx1 : x < lk) (hy1 : y < lk) (hlk : lk < 2 ^ 30) : kx_Mi l yy_Bk_beginOf ww_Bk_beginOf ({ frames := 1, cells := 0, slots := 0, locals := 21 }) D vwCl (kx_ty cI cJ cZ) [.ref k, .int (nI x), .int (nI y)] [(k, .inr (2, [.int (nI bn), .int (nI lf), .ref j1, .ref j2, .ref j3, .ref j4, .ref j5, .ref j6, .ref j7])), (j1, .inl (cI, lk, .inl bi)), (j5, .inl (cI, lk, .inl bg))] sz (fun (r : Int32) (u : Unit) => r = if bi y < bg x then bi y else bg x) (fun (u : Unit) => [(k, .inr (2, [.int (nI bn), .int (nI lf), .ref j1, .ref j2, .ref j3, .ref j4, .ref j5, .ref j6, .ref j7])), (j1, .inl (cI, lk, .inl bi)), (j5, .inl (cI, lk, .inl bg))]) 0 0 := by
  refine kx_starti (by decide) rfl (Nat.le_of_ble_eq_true rfl) ?_
  intro p e s m below meth c A ls hx hb hr hml hts hown hlocks hin hP hK hN hD hA hS hl
  have hl : lv_has ls 3 [(0, .ref k), (1, .int (nI x)), (2, .int (nI y))] := hl
  have hown : s.vm.findClass rr_Bk = some m.cls := hown
  have lk0 := hts _ (kx_m kw_200)
  have hin2 : ∀ w ∈ u_ws rr_Bk tt_Bk 9, w ∈ ww_Bk_beginOf := fun w h => kx_m (kf_Bk w h)
  have lk2 := hts _ (kx_m kw_191)
  obtain ⟨H, hH⟩ : ∃ H, H = s.heap := ⟨_, rfl⟩
  obtain ⟨locs, hlocs⟩ : ∃ z : List Loc, z = [] := ⟨_, rfl⟩
  have hP : va_P D vwCl [(k, .inr (2, [.int (nI bn), .int (nI lf), .ref j1, .ref j2, .ref j3, .ref j4, .ref j5, .ref j6, .ref j7])), (j1, .inl (cI, lk, .inl bi)), (j5, .inl (cI, lk, .inl bg))] H := by rw [hH]; exact hP
  have hS : va_S A s.heap H locs := by rw [hH, hlocs]; exact hS
  refine kx_gen hH hlocs ?_
  clear hH hlocs
  refine kx_nameQ (fun Q hQ => ?_)
  refine lv_aload_n hx hb dd_Bk_beginOf_0 rfl (lv_at hl 0 rfl) ?_
  refine va_get (D := D) (ci := 2) (v := .ref j5) (C := rr_Bk) (T := tt_Bk) (N := 9) hx hb hts hin2 hown hK hP 0 kg_3_0 rfl 6 (by decide) lk0 (fun _ h9 => h9) rfl dd_Bk_beginOf_1 ?_
  refine lv_iload_n hx hb dd_Bk_beginOf_4 rfl (lv_at hl 1 rfl) ?_
  refine kx_iald (q0 := 2) (t0 := 0) hx hb dd_Bk_beginOf_5 hK hP kg_3_2 rfl (by omega) (by omega) ?_
  refine lv_aload_n hx hb dd_Bk_beginOf_6 rfl (lv_at hl 0 rfl) ?_
  refine va_get (D := D) (ci := 2) (v := .ref j1) (C := rr_Bk) (T := tt_Bk) (N := 9) hx hb hts hin2 hown hK hP 0 kg_3_0 rfl 2 (by decide) lk2 (fun _ h9 => h9) rfl dd_Bk_beginOf_7 ?_
  refine lv_iload_n hx hb dd_Bk_beginOf_10 rfl (lv_at hl 2 rfl) ?_
  refine kx_iald (q0 := 1) (t0 := 0) hx hb dd_Bk_beginOf_11 hK hP kg_3_1 rfl (by omega) (by omega) ?_
  refine va_mmin hx hb (by rw [hml]; exact hl.1.symm) hown (hts _ (kx_m kw_687)) (hts _ (kx_m kw_421)) (hts _ (kx_m kw_54)) (hts _ (kx_m kw_422)) (Nat.le_of_ble_eq_true rfl) (Nat.le_of_ble_eq_true rfl) (Nat.zero_le _) (Nat.zero_le _) dd_Bk_beginOf_12 ?_
  rw [hQ]
  exact kx_iret hx hb hr hlocks hK hN hS dd_Bk_beginOf_15 () hP hD rfl

theorem dd_Bk_costAt_0 : decode bb_Bk_costAt 0 = .ok (.aload_n 0, 1) := by decide +kernel
theorem dd_Bk_costAt_1 : decode bb_Bk_costAt 1 = .ok (.iload_n 2, 1) := by decide +kernel
theorem dd_Bk_costAt_2 : decode bb_Bk_costAt 2 = .ok (.iconst 4, 1) := by decide +kernel
theorem dd_Bk_costAt_3 : decode bb_Bk_costAt 3 = .ok (.invokevirtual 80, 3) := by decide +kernel
theorem dd_Bk_costAt_6 : decode bb_Bk_costAt 6 = .ok (.ifCond .eq (23), 3) := by decide +kernel
theorem dd_Bk_costAt_9 : decode bb_Bk_costAt 9 = .ok (.aload_n 1, 1) := by decide +kernel
theorem dd_Bk_costAt_10 : decode bb_Bk_costAt 10 = .ok (.getfield 84, 3) := by decide +kernel
theorem dd_Bk_costAt_13 : decode bb_Bk_costAt 13 = .ok (.aload_n 0, 1) := by decide +kernel
theorem dd_Bk_costAt_14 : decode bb_Bk_costAt 14 = .ok (.iload_n 2, 1) := by decide +kernel
theorem dd_Bk_costAt_15 : decode bb_Bk_costAt 15 = .ok (.iconst 1, 1) := by decide +kernel
theorem dd_Bk_costAt_16 : decode bb_Bk_costAt 16 = .ok (.invokevirtual 89, 3) := by decide +kernel
theorem dd_Bk_costAt_19 : decode bb_Bk_costAt 19 = .ok (.ifCond .eq (7), 3) := by decide +kernel
theorem dd_Bk_costAt_22 : decode bb_Bk_costAt 22 = .ok (.iconst 3, 1) := by decide +kernel
theorem dd_Bk_costAt_23 : decode bb_Bk_costAt 23 = .ok (.goto (4), 3) := by decide +kernel
theorem dd_Bk_costAt_26 : decode bb_Bk_costAt 26 = .ok (.iconst 4, 1) := by decide +kernel
theorem dd_Bk_costAt_27 : decode bb_Bk_costAt 27 = .ok (.iaload, 1) := by decide +kernel
theorem dd_Bk_costAt_28 : decode bb_Bk_costAt 28 = .ok (.ireturn, 1) := by decide +kernel
theorem dd_Bk_costAt_29 : decode bb_Bk_costAt 29 = .ok (.aload_n 0, 1) := by decide +kernel
theorem dd_Bk_costAt_30 : decode bb_Bk_costAt 30 = .ok (.iload_n 2, 1) := by decide +kernel
theorem dd_Bk_costAt_31 : decode bb_Bk_costAt 31 = .ok (.iconst 3, 1) := by decide +kernel
theorem dd_Bk_costAt_32 : decode bb_Bk_costAt 32 = .ok (.invokevirtual 80, 3) := by decide +kernel
theorem dd_Bk_costAt_35 : decode bb_Bk_costAt 35 = .ok (.ifCond .eq (12), 3) := by decide +kernel
theorem dd_Bk_costAt_38 : decode bb_Bk_costAt 38 = .ok (.aload_n 0, 1) := by decide +kernel
theorem dd_Bk_costAt_39 : decode bb_Bk_costAt 39 = .ok (.getfield 92, 3) := by decide +kernel
theorem dd_Bk_costAt_42 : decode bb_Bk_costAt 42 = .ok (.iload_n 2, 1) := by decide +kernel
theorem dd_Bk_costAt_43 : decode bb_Bk_costAt 43 = .ok (.iaload, 1) := by decide +kernel
theorem dd_Bk_costAt_44 : decode bb_Bk_costAt 44 = .ok (.goto (4), 3) := by decide +kernel
theorem dd_Bk_costAt_47 : decode bb_Bk_costAt 47 = .ok (.iconst 0, 1) := by decide +kernel
theorem dd_Bk_costAt_48 : decode bb_Bk_costAt 48 = .ok (.ireturn, 1) := by decide +kernel

set_option maxHeartbeats 4000000 in
set_option maxRecDepth 100000 in
theorem ct_Bk_costAt (l : Launch) (D : va_G) (cI cJ cZ : ClassId) (sz : Nat) (t : Nat) (cn : Nat) (i1 : Nat) (i2 : Nat) (i3 : Nat) (i4 : Nat) (i5 : Nat) (i6 : Nat) (i7 : Nat) (i8 : Nat) (i9 : Nat) (ln : Nat) (ik : Nat → Int32) (ic : Nat → Int32) (if_ : Nat → Int32) (g : Nat) (g0 : Nat) (g1 : Nat) (g2 : Nat) (g3 : Nat) (mc : Nat) (ru : Nat → Int32) (i : Nat) (hi : i < 2 ^ 30) (hc : cn ≤ ln) (hln : ln < 2 ^ 30) : kx_Mi l yy_Bk_costAt ww_Bk_costAt ({ frames := 2, cells := 0, slots := 0, locals := 44 }) D vwCl (kx_ty cI cJ cZ) [.ref t, .ref g, .int (nI i)] [(t, .inr (4, [.int (nI cn), .ref i1, .ref i2, .ref i3, .ref i4, .ref i5, .ref i6, .ref i7, .ref i8, .ref i9])), (g, .inr (8, [.ref g0, .ref g1, .ref g2, .ref g3, .int (nI mc)])), (i1, .inl (cI, ln, .inl ik)), (i2, .inl (cI, ln, .inl ic)), (i5, .inl (cI, ln, .inl if_)), (g0, .inl (cI, 9, .inl ru))] sz (fun (r : Int32) (u : Unit) => r = pk_cost ik ic if_ ru cn i) (fun (u : Unit) => [(t, .inr (4, [.int (nI cn), .ref i1, .ref i2, .ref i3, .ref i4, .ref i5, .ref i6, .ref i7, .ref i8, .ref i9])), (g, .inr (8, [.ref g0, .ref g1, .ref g2, .ref g3, .int (nI mc)])), (i1, .inl (cI, ln, .inl ik)), (i2, .inl (cI, ln, .inl ic)), (i5, .inl (cI, ln, .inl if_)), (g0, .inl (cI, 9, .inl ru))]) 0 0 := by
  refine kx_starti (by decide) rfl (Nat.le_of_ble_eq_true rfl) ?_
  intro p e s m below meth c A ls hx hb hr hml hts hown hlocks hin hP hK hN hD hA hS hl
  have hl : lv_has ls 3 [(0, .ref t), (1, .ref g), (2, .int (nI i))] := hl
  have hown : s.vm.findClass rr_Bk = some m.cls := hown
  have lk0 := hts _ (kx_m kw_136)
  have hin4 : ∀ w ∈ u_ws rr_It tt_It 10, w ∈ ww_Bk_costAt := fun w h => kx_m (kf_It w h)
  have lk2 := hts _ (kx_m kw_103)
  have hin8 : ∀ w ∈ u_ws rr_Sg tt_Sg 5, w ∈ ww_Bk_costAt := fun w h => kx_m (kf_Sg w h)
  obtain ⟨H, hH⟩ : ∃ H, H = s.heap := ⟨_, rfl⟩
  obtain ⟨locs, hlocs⟩ : ∃ z : List Loc, z = [] := ⟨_, rfl⟩
  have hP : va_P D vwCl [(t, .inr (4, [.int (nI cn), .ref i1, .ref i2, .ref i3, .ref i4, .ref i5, .ref i6, .ref i7, .ref i8, .ref i9])), (g, .inr (8, [.ref g0, .ref g1, .ref g2, .ref g3, .int (nI mc)])), (i1, .inl (cI, ln, .inl ik)), (i2, .inl (cI, ln, .inl ic)), (i5, .inl (cI, ln, .inl if_)), (g0, .inl (cI, 9, .inl ru))] H := by rw [hH]; exact hP
  have hS : va_S A s.heap H locs := by rw [hH, hlocs]; exact hS
  refine kx_gen hH hlocs ?_
  clear hH hlocs
  refine kx_nameQ (fun Q hQ => ?_)
  refine lv_aload_n hx hb dd_Bk_costAt_0 rfl (lv_at hl 0 rfl) ?_
  refine lv_iload_n hx hb dd_Bk_costAt_1 rfl (lv_at hl 2 rfl) ?_
  refine lv_iconst (v := nI 4) hx hb dd_Bk_costAt_2 (by decide) ?_
  refine kx_calli (wr := [(g, .inr (8, [.ref g0, .ref g1, .ref g2, .ref g3, .int (nI mc)])), (i2, .inl (cI, ln, .inl ic)), (i5, .inl (cI, ln, .inl if_)), (g0, .inl (cI, 9, .inl ru))]) (va_runV (C := rr_It) (As := [.int (nI i), .int (nI 4)]) (rest := []) ⟨hx, hb, hml, hown, hts⟩ (ct_It_isKind l D cI cJ cZ H.size t cn i1 i2 i3 i4 i5 i6 i7 i8 i9 ln ik i (nI 4) (by omega) (by omega) (by omega)) ⟨(callB_of 2 hts (kx_good kw_599) rfl rfl rfl (hts _ (kx_m kw_47)) (hts _ (kx_m kw_624)) (by decide +kernel) ⟨Nat.le_of_ble_eq_true rfl, Nat.le_of_ble_eq_true rfl⟩), (hts _ (kx_m kw_597)), (hts _ (kx_m kw_598))⟩ (kx_preV (ci := 4) (q0 := 0) hK hN (hP.sub [0, 2] kt_6_0_2) (hD.sub [0, 2] (by decide) ks_6_0_2) rfl kg_2_0) rfl rfl hl.1 rfl (lv_room (Nat.le_of_ble_eq_true rfl)) dd_Bk_costAt_3 ⟨Nat.le_of_ble_eq_true rfl, Nat.le_of_ble_eq_true rfl⟩) hP hD hS hA [0, 2] [1, 3, 4, 5] ks_6_0_2 ks_6_1_3_4_5 (by decide) (by decide) (fun r3 u3 H locs hw3 hP hD hS => ?_)
  have hP : va_P D vwCl [(g, .inr (8, [.ref g0, .ref g1, .ref g2, .ref g3, .int (nI mc)])), (i2, .inl (cI, ln, .inl ic)), (i5, .inl (cI, ln, .inl if_)), (g0, .inl (cI, 9, .inl ru)), (t, .inr (4, [.int (nI cn), .ref i1, .ref i2, .ref i3, .ref i4, .ref i5, .ref i6, .ref i7, .ref i8, .ref i9])), (i1, .inl (cI, ln, .inl ik))] H := hP
  have hD : va_D A [(g, .inr (8, [.ref g0, .ref g1, .ref g2, .ref g3, .int (nI mc)])), (i2, .inl (cI, ln, .inl ic)), (i5, .inl (cI, ln, .inl if_)), (g0, .inl (cI, 9, .inl ru)), (t, .inr (4, [.int (nI cn), .ref i1, .ref i2, .ref i3, .ref i4, .ref i5, .ref i6, .ref i7, .ref i8, .ref i9])), (i1, .inl (cI, ln, .inl ik))] := hD
  have hP : va_P D vwCl [(t, .inr (4, [.int (nI cn), .ref i1, .ref i2, .ref i3, .ref i4, .ref i5, .ref i6, .ref i7, .ref i8, .ref i9])), (g, .inr (8, [.ref g0, .ref g1, .ref g2, .ref g3, .int (nI mc)])), (i1, .inl (cI, ln, .inl ik)), (i2, .inl (cI, ln, .inl ic)), (i5, .inl (cI, ln, .inl if_)), (g0, .inl (cI, 9, .inl ru))] H := hP.sub [4, 0, 5, 1, 2, 3] kt_6_4_0_5_1_2_3
  have hD : va_D A [(t, .inr (4, [.int (nI cn), .ref i1, .ref i2, .ref i3, .ref i4, .ref i5, .ref i6, .ref i7, .ref i8, .ref i9])), (g, .inr (8, [.ref g0, .ref g1, .ref g2, .ref g3, .int (nI mc)])), (i1, .inl (cI, ln, .inl ik)), (i2, .inl (cI, ln, .inl ic)), (i5, .inl (cI, ln, .inl if_)), (g0, .inl (cI, 9, .inl ru))] := hD.sub [4, 0, 5, 1, 2, 3] (by decide) ks_6_4_0_5_1_2_3
  have hw3 : r3 = kb_p (i < cn ∧ ik i = (nI 4)) := hw3
  subst hw3
  refine lv_if_eq (tgt := 29) hx hb dd_Bk_costAt_6 (by decide) (fun c6 => ?_) (fun c6 => ?_)
  · skip
    have c6 : ¬ (i < cn ∧ ik i = (nI 4)) := kb_0.mp c6
    refine lv_aload_n hx hb dd_Bk_costAt_29 rfl (lv_at hl 0 rfl) ?_
    refine lv_iload_n hx hb dd_Bk_costAt_30 rfl (lv_at hl 2 rfl) ?_
    refine lv_iconst (v := nI 3) hx hb dd_Bk_costAt_31 (by decide) ?_
    refine kx_calli (wr := [(g, .inr (8, [.ref g0, .ref g1, .ref g2, .ref g3, .int (nI mc)])), (i2, .inl (cI, ln, .inl ic)), (i5, .inl (cI, ln, .inl if_)), (g0, .inl (cI, 9, .inl ru))]) (va_runV (C := rr_It) (As := [.int (nI i), .int (nI 3)]) (rest := []) ⟨hx, hb, hml, hown, hts⟩ (ct_It_isKind l D cI cJ cZ H.size t cn i1 i2 i3 i4 i5 i6 i7 i8 i9 ln ik i (nI 3) (by omega) (by omega) (by omega)) ⟨(callB_of 2 hts (kx_good kw_599) rfl rfl rfl (hts _ (kx_m kw_47)) (hts _ (kx_m kw_624)) (by decide +kernel) ⟨Nat.le_of_ble_eq_true rfl, Nat.le_of_ble_eq_true rfl⟩), (hts _ (kx_m kw_597)), (hts _ (kx_m kw_598))⟩ (kx_preV (ci := 4) (q0 := 0) hK hN (hP.sub [0, 2] kt_6_0_2) (hD.sub [0, 2] (by decide) ks_6_0_2) rfl kg_2_0) rfl rfl hl.1 rfl (lv_room (Nat.le_of_ble_eq_true rfl)) dd_Bk_costAt_32 ⟨Nat.le_of_ble_eq_true rfl, Nat.le_of_ble_eq_true rfl⟩) hP hD hS hA [0, 2] [1, 3, 4, 5] ks_6_0_2 ks_6_1_3_4_5 (by decide) (by decide) (fun r32 u32 H locs hw32 hP hD hS => ?_)
    have hP : va_P D vwCl [(g, .inr (8, [.ref g0, .ref g1, .ref g2, .ref g3, .int (nI mc)])), (i2, .inl (cI, ln, .inl ic)), (i5, .inl (cI, ln, .inl if_)), (g0, .inl (cI, 9, .inl ru)), (t, .inr (4, [.int (nI cn), .ref i1, .ref i2, .ref i3, .ref i4, .ref i5, .ref i6, .ref i7, .ref i8, .ref i9])), (i1, .inl (cI, ln, .inl ik))] H := hP
    have hD : va_D A [(g, .inr (8, [.ref g0, .ref g1, .ref g2, .ref g3, .int (nI mc)])), (i2, .inl (cI, ln, .inl ic)), (i5, .inl (cI, ln, .inl if_)), (g0, .inl (cI, 9, .inl ru)), (t, .inr (4, [.int (nI cn), .ref i1, .ref i2, .ref i3, .ref i4, .ref i5, .ref i6, .ref i7, .ref i8, .ref i9])), (i1, .inl (cI, ln, .inl ik))] := hD
    have hP : va_P D vwCl [(t, .inr (4, [.int (nI cn), .ref i1, .ref i2, .ref i3, .ref i4, .ref i5, .ref i6, .ref i7, .ref i8, .ref i9])), (g, .inr (8, [.ref g0, .ref g1, .ref g2, .ref g3, .int (nI mc)])), (i1, .inl (cI, ln, .inl ik)), (i2, .inl (cI, ln, .inl ic)), (i5, .inl (cI, ln, .inl if_)), (g0, .inl (cI, 9, .inl ru))] H := hP.sub [4, 0, 5, 1, 2, 3] kt_6_4_0_5_1_2_3
    have hD : va_D A [(t, .inr (4, [.int (nI cn), .ref i1, .ref i2, .ref i3, .ref i4, .ref i5, .ref i6, .ref i7, .ref i8, .ref i9])), (g, .inr (8, [.ref g0, .ref g1, .ref g2, .ref g3, .int (nI mc)])), (i1, .inl (cI, ln, .inl ik)), (i2, .inl (cI, ln, .inl ic)), (i5, .inl (cI, ln, .inl if_)), (g0, .inl (cI, 9, .inl ru))] := hD.sub [4, 0, 5, 1, 2, 3] (by decide) ks_6_4_0_5_1_2_3
    have hw32 : r32 = kb_p (i < cn ∧ ik i = (nI 3)) := hw32
    subst hw32
    refine lv_if_eq (tgt := 47) hx hb dd_Bk_costAt_35 (by decide) (fun c35 => ?_) (fun c35 => ?_)
    · skip
      have c35 : ¬ (i < cn ∧ ik i = (nI 3)) := kb_0.mp c35
      refine lv_iconst (v := nI 0) hx hb dd_Bk_costAt_47 (by decide) ?_
      rw [hQ]
      exact kx_iret hx hb hr hlocks hK hN hS dd_Bk_costAt_48 () hP hD (by unfold pk_cost; first | (rw [if_neg c6, if_pos c35]; done) | (rw [if_neg c6, if_neg c35]; done))
    · skip
      have c35 : i < cn ∧ ik i = (nI 3) := kb_1.mp c35
      refine lv_aload_n hx hb dd_Bk_costAt_38 rfl (lv_at hl 0 rfl) ?_
      refine va_get (D := D) (ci := 4) (v := .ref i2) (C := rr_It) (T := tt_It) (N := 10) hx hb hts hin4 hown hK hP 0 kg_6_0 rfl 2 (by decide) lk0 (fun _ h9 => h9) rfl dd_Bk_costAt_39 ?_
      refine lv_iload_n hx hb dd_Bk_costAt_42 rfl (lv_at hl 2 rfl) ?_
      refine kx_iald (q0 := 3) (t0 := 0) hx hb dd_Bk_costAt_43 hK hP kg_6_3 rfl (by omega) (by omega) ?_
      refine lv_goto (tgt := 48) hx hb dd_Bk_costAt_44 (by decide) ?_
      rw [hQ]
      exact kx_iret hx hb hr hlocks hK hN hS dd_Bk_costAt_48 () hP hD (by unfold pk_cost; first | (rw [if_neg c6, if_pos c35]; done) | (rw [if_neg c6, if_neg c35]; done))
  · skip
    have c6 : i < cn ∧ ik i = (nI 4) := kb_1.mp c6
    refine lv_aload_n hx hb dd_Bk_costAt_9 rfl (lv_at hl 1 rfl) ?_
    refine va_get (D := D) (ci := 8) (v := .ref g0) (C := rr_Sg) (T := tt_Sg) (N := 5) hx hb hts hin8 hown hK hP 1 kg_6_1 rfl 0 (by decide) lk2 (fun _ h9 => h9) rfl dd_Bk_costAt_10 ?_
    refine lv_aload_n hx hb dd_Bk_costAt_13 rfl (lv_at hl 0 rfl) ?_
    refine lv_iload_n hx hb dd_Bk_costAt_14 rfl (lv_at hl 2 rfl) ?_
    refine lv_iconst (v := nI 1) hx hb dd_Bk_costAt_15 (by decide) ?_
    refine kx_calli (wr := [(g, .inr (8, [.ref g0, .ref g1, .ref g2, .ref g3, .int (nI mc)])), (i2, .inl (cI, ln, .inl ic)), (g0, .inl (cI, 9, .inl ru))]) (va_runV (C := rr_It) (As := [.int (nI i), .int (nI 1)]) (rest := [.ref g0]) ⟨hx, hb, hml, hown, hts⟩ (ct_It_hasFlag l D cI cJ cZ H.size t cn i1 i2 i3 i4 i5 i6 i7 i8 i9 ln ik if_ i (nI 1) (by omega) (by omega) (by omega)) ⟨(callB_of 2 hts (kx_good kw_603) rfl rfl rfl (hts _ (kx_m kw_47)) (hts _ (kx_m kw_625)) (by decide +kernel) ⟨Nat.le_of_ble_eq_true rfl, Nat.le_of_ble_eq_true rfl⟩), (hts _ (kx_m kw_601)), (hts _ (kx_m kw_602))⟩ (kx_preV (ci := 4) (q0 := 0) hK hN (hP.sub [0, 2, 4] kt_6_0_2_4) (hD.sub [0, 2, 4] (by decide) ks_6_0_2_4) rfl kg_3_0) rfl rfl hl.1 rfl (lv_room (Nat.le_of_ble_eq_true rfl)) dd_Bk_costAt_16 ⟨Nat.le_of_ble_eq_true rfl, Nat.le_of_ble_eq_true rfl⟩) hP hD hS hA [0, 2, 4] [1, 3, 5] ks_6_0_2_4 ks_6_1_3_5 (by decide) (by decide) (fun r16 u16 H locs hw16 hP hD hS => ?_)
    have hP : va_P D vwCl [(g, .inr (8, [.ref g0, .ref g1, .ref g2, .ref g3, .int (nI mc)])), (i2, .inl (cI, ln, .inl ic)), (g0, .inl (cI, 9, .inl ru)), (t, .inr (4, [.int (nI cn), .ref i1, .ref i2, .ref i3, .ref i4, .ref i5, .ref i6, .ref i7, .ref i8, .ref i9])), (i1, .inl (cI, ln, .inl ik)), (i5, .inl (cI, ln, .inl if_))] H := hP
    have hD : va_D A [(g, .inr (8, [.ref g0, .ref g1, .ref g2, .ref g3, .int (nI mc)])), (i2, .inl (cI, ln, .inl ic)), (g0, .inl (cI, 9, .inl ru)), (t, .inr (4, [.int (nI cn), .ref i1, .ref i2, .ref i3, .ref i4, .ref i5, .ref i6, .ref i7, .ref i8, .ref i9])), (i1, .inl (cI, ln, .inl ik)), (i5, .inl (cI, ln, .inl if_))] := hD
    have hP : va_P D vwCl [(t, .inr (4, [.int (nI cn), .ref i1, .ref i2, .ref i3, .ref i4, .ref i5, .ref i6, .ref i7, .ref i8, .ref i9])), (g, .inr (8, [.ref g0, .ref g1, .ref g2, .ref g3, .int (nI mc)])), (i1, .inl (cI, ln, .inl ik)), (i2, .inl (cI, ln, .inl ic)), (i5, .inl (cI, ln, .inl if_)), (g0, .inl (cI, 9, .inl ru))] H := hP.sub [3, 0, 4, 1, 5, 2] kt_6_3_0_4_1_5_2
    have hD : va_D A [(t, .inr (4, [.int (nI cn), .ref i1, .ref i2, .ref i3, .ref i4, .ref i5, .ref i6, .ref i7, .ref i8, .ref i9])), (g, .inr (8, [.ref g0, .ref g1, .ref g2, .ref g3, .int (nI mc)])), (i1, .inl (cI, ln, .inl ik)), (i2, .inl (cI, ln, .inl ic)), (i5, .inl (cI, ln, .inl if_)), (g0, .inl (cI, 9, .inl ru))] := hD.sub [3, 0, 4, 1, 5, 2] (by decide) ks_6_3_0_4_1_5_2
    have hw16 : r16 = kb_p (pk_fl ik if_ cn i (nI 1)) := hw16
    subst hw16
    refine lv_if_eq (tgt := 26) hx hb dd_Bk_costAt_19 (by decide) (fun c19 => ?_) (fun c19 => ?_)
    · skip
      have c19 : ¬ (pk_fl ik if_ cn i (nI 1)) := kb_0.mp c19
      refine lv_iconst (v := nI 4) hx hb dd_Bk_costAt_26 (by decide) ?_
      refine kx_iald (q0 := 5) (t0 := 0) hx hb dd_Bk_costAt_27 hK hP kg_6_5 rfl (by omega) (by omega) ?_
      rw [hQ]
      exact kx_iret hx hb hr hlocks hK hN hS dd_Bk_costAt_28 () hP hD (by unfold pk_cost; first | (rw [if_pos c6, if_pos c19]; done) | (rw [if_pos c6, if_neg c19]; done))
    · skip
      have c19 : pk_fl ik if_ cn i (nI 1) := kb_1.mp c19
      refine lv_iconst (v := nI 3) hx hb dd_Bk_costAt_22 (by decide) ?_
      refine lv_goto (tgt := 27) hx hb dd_Bk_costAt_23 (by decide) ?_
      refine kx_iald (q0 := 5) (t0 := 0) hx hb dd_Bk_costAt_27 hK hP kg_6_5 rfl (by omega) (by omega) ?_
      rw [hQ]
      exact kx_iret hx hb hr hlocks hK hN hS dd_Bk_costAt_28 () hP hD (by unfold pk_cost; first | (rw [if_pos c6, if_pos c19]; done) | (rw [if_pos c6, if_neg c19]; done))
