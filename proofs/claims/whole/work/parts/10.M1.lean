theorem kw_53 : Cond.initialized rr_M ∈ kx_T := kx_in (i := 53) (by decide +kernel) (by decide +kernel)
theorem kw_798 : Cond.fieldLink rr_M (71) "LineDeskModel" "thrown" "I" ∈ kx_T := kx_in (i := 798) (by decide +kernel) (by decide +kernel)
theorem kw_799 : Cond.fieldLink rr_M (85) "LineDeskModel" "count" "I" ∈ kx_T := kx_in (i := 799) (by decide +kernel) (by decide +kernel)
theorem kw_800 : Cond.fieldLink rr_M (7) "LineDeskModel" "kind" "[I" ∈ kx_T := kx_in (i := 800) (by decide +kernel) (by decide +kernel)
theorem kw_801 : Cond.fieldLink rr_M (13) "LineDeskModel" "wide" "[I" ∈ kx_T := kx_in (i := 801) (by decide +kernel) (by decide +kernel)
theorem kw_803 : Cond.fieldLink rr_M (19) "LineDeskModel" "order" "[I" ∈ kx_T := kx_in (i := 803) (by decide +kernel) (by decide +kernel)
theorem kw_809 : Cond.fieldLink rr_M (92) "LineDeskModel" "pass" "I" ∈ kx_T := kx_in (i := 809) (by decide +kernel) (by decide +kernel)
theorem kw_919 : Cond.methodLink rr_M (76) yy_M_in ∈ kx_T := kx_in (i := 919) (by decide +kernel) (by decide +kernel)
theorem kw_920 : Cond.static yy_M_in ∈ kx_T := kx_in (i := 920) (by decide +kernel) (by decide +kernel)
theorem kw_921 : Cond.code yy_M_in bb_M_in 3 (some .boolean) ∈ kx_T := kx_in (i := 921) (by decide +kernel) (by decide +kernel)
theorem kw_929 : Cond.constant rr_M (74) (-1073741823) ∈ kx_T := kx_in (i := 929) (by decide +kernel) (by decide +kernel)
theorem kw_930 : Cond.constant rr_M (75) (1073741823) ∈ kx_T := kx_in (i := 930) (by decide +kernel) (by decide +kernel)
/-! the reference's leaves: what they say, in numbers -/
abbrev pm_br (kd wd od : Nat → Int32) (cn ps i : Nat) : Prop := if i = cn then True else if kd i = nI 1 then (0 < i ∧ (kd (i - 1) = 0 ∨ kd (i - 1) = nI 4)) else if kd i = nI 2 then (i + 1 < cn ∧ kd (i + 1) = nI 1) else if kd i = nI 3 then wd i < nI 10000 else (kd i = nI 4 ∧ (1 < ps ∨ od i &&& nI 4 = 0))
theorem dd_M_in_0 : decode bb_M_in 0 = .ok (.iload_n 0, 1) := by decide +kernel
theorem dd_M_in_1 : decode bb_M_in 1 = .ok (.iload_n 1, 1) := by decide +kernel
theorem dd_M_in_2 : decode bb_M_in 2 = .ok (.if_icmp .lt (12), 3) := by decide +kernel
theorem dd_M_in_5 : decode bb_M_in 5 = .ok (.iload_n 0, 1) := by decide +kernel
theorem dd_M_in_6 : decode bb_M_in 6 = .ok (.iload_n 2, 1) := by decide +kernel
theorem dd_M_in_7 : decode bb_M_in 7 = .ok (.if_icmp .gt (7), 3) := by decide +kernel
theorem dd_M_in_10 : decode bb_M_in 10 = .ok (.iconst 1, 1) := by decide +kernel
theorem dd_M_in_11 : decode bb_M_in 11 = .ok (.goto (4), 3) := by decide +kernel
theorem dd_M_in_14 : decode bb_M_in 14 = .ok (.iconst 0, 1) := by decide +kernel
theorem dd_M_in_15 : decode bb_M_in 15 = .ok (.ireturn, 1) := by decide +kernel

set_option maxHeartbeats 4000000 in
set_option maxRecDepth 100000 in
theorem ct_M_in (l : Launch) (D : va_G) (cI cJ cZ : ClassId) (sz : Nat) (v : Int32) (lo : Int32) (hi : Int32) : kx_Mi l yy_M_in ww_M_in ({ frames := 0, cells := 0, slots := 0, locals := 0 }) D vwCl (kx_ty cI cJ cZ) [.int v, .int lo, .int hi] [] sz (fun (r : Int32) (u : Unit) => r = kb_p (¬ v < lo ∧ ¬ hi < v)) (fun (u : Unit) => []) 0 0 := by
  refine kx_starti (by decide) rfl (Nat.le_of_ble_eq_true rfl) ?_
  intro p e s m below meth c A ls hx hb hr hml hts hown hlocks hin hP hK hD hA hS hl
  have hl : lv_has ls 3 [(0, .int v), (1, .int lo), (2, .int hi)] := hl
  have hown : s.vm.findClass rr_M = some m.cls := hown
  obtain ⟨H, hH⟩ : ∃ H, H = s.heap := ⟨_, rfl⟩
  obtain ⟨locs, hlocs⟩ : ∃ z : List Loc, z = [] := ⟨_, rfl⟩
  have hP : va_P D vwCl [] H := by rw [hH]; exact hP
  have hS : va_S A s.heap H locs := by rw [hH, hlocs]; exact hS
  refine kx_gen hH hlocs ?_
  clear hH hlocs
  refine lv_iload_n hx hb dd_M_in_0 rfl (lv_at hl 0 rfl) ?_
  refine lv_iload_n hx hb dd_M_in_1 rfl (lv_at hl 1 rfl) ?_
  refine lv_icmp_lt (tgt := 14) hx hb dd_M_in_2 (by decide) (fun c2 => ?_) (fun c2 => ?_)
  · skip
    refine lv_iconst (v := nI 0) hx hb dd_M_in_14 (by decide) ?_
    exact kx_zret hx hb hr hlocks hK hS dd_M_in_15 (by decide) () hP hD (by first | exact kb_t (by simp_all) | exact kb_f (by simp_all))
  · skip
    refine lv_iload_n hx hb dd_M_in_5 rfl (lv_at hl 0 rfl) ?_
    refine lv_iload_n hx hb dd_M_in_6 rfl (lv_at hl 2 rfl) ?_
    refine lv_icmp_gt (tgt := 14) hx hb dd_M_in_7 (by decide) (fun c7 => ?_) (fun c7 => ?_)
    · skip
      refine lv_iconst (v := nI 0) hx hb dd_M_in_14 (by decide) ?_
      exact kx_zret hx hb hr hlocks hK hS dd_M_in_15 (by decide) () hP hD (by first | exact kb_t (by simp_all) | exact kb_f (by simp_all))
    · skip
      refine lv_iconst (v := nI 1) hx hb dd_M_in_10 (by decide) ?_
      refine lv_goto (tgt := 15) hx hb dd_M_in_11 (by decide) ?_
      exact kx_zret hx hb hr hlocks hK hS dd_M_in_15 (by decide) () hP hD (by first | exact kb_t (by simp_all) | exact kb_f (by simp_all))

theorem dd_M_isWidth_0 : decode bb_M_isWidth 0 = .ok (.iload_n 0, 1) := by decide +kernel
theorem dd_M_isWidth_1 : decode bb_M_isWidth 1 = .ok (.ldc 74, 2) := by decide +kernel
theorem dd_M_isWidth_3 : decode bb_M_isWidth 3 = .ok (.ldc 75, 2) := by decide +kernel
theorem dd_M_isWidth_5 : decode bb_M_isWidth 5 = .ok (.invokestatic 76, 3) := by decide +kernel
theorem dd_M_isWidth_8 : decode bb_M_isWidth 8 = .ok (.ireturn, 1) := by decide +kernel

set_option maxHeartbeats 4000000 in
set_option maxRecDepth 100000 in
theorem ct_M_isWidth (l : Launch) (D : va_G) (cI cJ cZ : ClassId) (sz : Nat) (v : Int32) : kx_Mi l yy_M_isWidth ww_M_isWidth ({ frames := 1, cells := 0, slots := 0, locals := 22 }) D vwCl (kx_ty cI cJ cZ) [.int v] [] sz (fun (r : Int32) (u : Unit) => r = kb_p (¬ v < (-1073741823) ∧ ¬ nI 1073741823 < v)) (fun (u : Unit) => []) 0 0 := by
  refine kx_starti (by decide) rfl (Nat.le_of_ble_eq_true rfl) ?_
  intro p e s m below meth c A ls hx hb hr hml hts hown hlocks hin hP hK hD hA hS hl
  have hl : lv_has ls 1 [(0, .int v)] := hl
  have hown : s.vm.findClass rr_M = some m.cls := hown
  have lk0 := hts _ (kx_m kw_929)
  have lk1 := hts _ (kx_m kw_930)
  obtain ⟨H, hH⟩ : ∃ H, H = s.heap := ⟨_, rfl⟩
  obtain ⟨locs, hlocs⟩ : ∃ z : List Loc, z = [] := ⟨_, rfl⟩
  have hP : va_P D vwCl [] H := by rw [hH]; exact hP
  have hS : va_S A s.heap H locs := by rw [hH, hlocs]; exact hS
  refine kx_gen hH hlocs ?_
  clear hH hlocs
  refine lv_iload_n hx hb dd_M_isWidth_0 rfl (lv_at hl 0 rfl) ?_
  refine lv_ldc (v := (-1073741823)) hx hb hown lk0 dd_M_isWidth_1 ?_
  refine lv_ldc (v := nI 1073741823) hx hb hown lk1 dd_M_isWidth_3 ?_
  refine kx_calli (wr := []) (va_runS (As := [.int v, .int (-1073741823), .int (nI 1073741823)]) (rest := []) ⟨hx, hb, hml, hown, hts⟩ (ct_M_in l D cI cJ cZ H.size v (-1073741823) (nI 1073741823)) ⟨(callB_of 3 hts (kx_good kw_921) rfl rfl rfl (hts _ (kx_m kw_53)) (hts _ (kx_m kw_919)) (by decide +kernel) ⟨Nat.le_of_ble_eq_true rfl, Nat.le_of_ble_eq_true rfl⟩), (hts _ (kx_m kw_920))⟩ (kx_preS hK (hP.sub [] rfl) (hD.sub [] (by decide) rfl)) rfl rfl hl.1 rfl (lv_room (Nat.le_of_ble_eq_true rfl)) dd_M_isWidth_5 ⟨Nat.le_of_ble_eq_true rfl, Nat.le_of_ble_eq_true rfl⟩) hP hD hS hA [] [] rfl rfl (by decide) (by decide) (fun r5 u5 H locs hw5 hP hD hS => ?_)
  have hP : va_P D vwCl [] H := hP
  have hD : va_D A [] := hD
  have hw5 : r5 = kb_p (¬ v < (-1073741823) ∧ ¬ (nI 1073741823) < v) := hw5
  subst hw5
  exact kx_zret hx hb hr hlocks hK hS dd_M_isWidth_8 kb_nar () hP hD rfl

theorem dd_M_thrown_0 : decode bb_M_thrown 0 = .ok (.aload_n 0, 1) := by decide +kernel
theorem dd_M_thrown_1 : decode bb_M_thrown 1 = .ok (.getfield 71, 3) := by decide +kernel
theorem dd_M_thrown_4 : decode bb_M_thrown 4 = .ok (.ireturn, 1) := by decide +kernel

set_option maxHeartbeats 4000000 in
set_option maxRecDepth 100000 in
theorem ct_M_thrown (l : Launch) (D : va_G) (cI cJ cZ : ClassId) (sz : Nat) (o : Nat) (th : Nat) (cn : Nat) (a0 : Nat) (a1 : Nat) (a2 : Nat) (a3 : Nat) (a4 : Nat) (a5 : Nat) (mn : Nat) (a6 : Nat) (a7 : Nat) (ps : Nat) (bk : Nat) (a8 : Nat) (a9 : Nat) (a10 : Nat) (a11 : Nat) (a12 : Nat) (a13 : Nat) (a14 : Nat) (a15 : Nat) (kf : Nat) (lb : Int32) (lc : Nat) (lo : Int64) (el : Nat) (ec : Nat) (eo : Int64) (eb : Int32) (ed : Int64) (mp : Nat) (ml : Nat) (md : Int64) (mo : Int64) (mb : Int32) (a16 : Nat) (a17 : Nat) : kx_Mi l yy_M_thrown ww_M_thrown ({ frames := 0, cells := 0, slots := 0, locals := 0 }) D vwCl (kx_ty cI cJ cZ) [.ref o] [(o, .inr (0, [.int (nI th), .int (nI cn), .ref a0, .ref a1, .ref a2, .ref a3, .ref a4, .ref a5, .int (nI mn), .ref a6, .ref a7, .int (nI ps), .int (nI bk), .ref a8, .ref a9, .ref a10, .ref a11, .ref a12, .ref a13, .ref a14, .ref a15, .int (nI kf), .int lb, .int (nI lc), .long lo, .int (nI el), .int (nI ec), .long eo, .int eb, .long ed, .int (nI mp), .int (nI ml), .long md, .long mo, .int mb, .ref a16, .ref a17]))] sz (fun (r : Int32) (u : Unit) => r = nI th) (fun (u : Unit) => [(o, .inr (0, [.int (nI th), .int (nI cn), .ref a0, .ref a1, .ref a2, .ref a3, .ref a4, .ref a5, .int (nI mn), .ref a6, .ref a7, .int (nI ps), .int (nI bk), .ref a8, .ref a9, .ref a10, .ref a11, .ref a12, .ref a13, .ref a14, .ref a15, .int (nI kf), .int lb, .int (nI lc), .long lo, .int (nI el), .int (nI ec), .long eo, .int eb, .long ed, .int (nI mp), .int (nI ml), .long md, .long mo, .int mb, .ref a16, .ref a17]))]) 0 0 := by
  refine kx_starti (by decide) rfl (Nat.le_of_ble_eq_true rfl) ?_
  intro p e s m below meth c A ls hx hb hr hml hts hown hlocks hin hP hK hD hA hS hl
  have hl : lv_has ls 1 [(0, .ref o)] := hl
  have hown : s.vm.findClass rr_M = some m.cls := hown
  have lk0 := hts _ (kx_m kw_798)
  have hin0 : ∀ w ∈ u_ws rr_M tt_M 37, w ∈ ww_M_thrown := fun w h => kx_m (kf_M w h)
  obtain ⟨H, hH⟩ : ∃ H, H = s.heap := ⟨_, rfl⟩
  obtain ⟨locs, hlocs⟩ : ∃ z : List Loc, z = [] := ⟨_, rfl⟩
  have hP : va_P D vwCl [(o, .inr (0, [.int (nI th), .int (nI cn), .ref a0, .ref a1, .ref a2, .ref a3, .ref a4, .ref a5, .int (nI mn), .ref a6, .ref a7, .int (nI ps), .int (nI bk), .ref a8, .ref a9, .ref a10, .ref a11, .ref a12, .ref a13, .ref a14, .ref a15, .int (nI kf), .int lb, .int (nI lc), .long lo, .int (nI el), .int (nI ec), .long eo, .int eb, .long ed, .int (nI mp), .int (nI ml), .long md, .long mo, .int mb, .ref a16, .ref a17]))] H := by rw [hH]; exact hP
  have hS : va_S A s.heap H locs := by rw [hH, hlocs]; exact hS
  refine kx_gen hH hlocs ?_
  clear hH hlocs
  refine lv_aload_n hx hb dd_M_thrown_0 rfl (lv_at hl 0 rfl) ?_
  refine va_get (D := D) (ci := 0) (v := .int (nI th)) (C := rr_M) (T := tt_M) (N := 37) hx hb hts hin0 hown hK hP 0 rfl rfl 0 (by decide) lk0 (fun _ h9 => h9) rfl dd_M_thrown_1 ?_
  exact kx_iret hx hb hr hlocks hK hS dd_M_thrown_4 () hP hD rfl

theorem dd_M_isBreak_0 : decode bb_M_isBreak 0 = .ok (.iload_n 1, 1) := by decide +kernel
theorem dd_M_isBreak_1 : decode bb_M_isBreak 1 = .ok (.aload_n 0, 1) := by decide +kernel
theorem dd_M_isBreak_2 : decode bb_M_isBreak 2 = .ok (.getfield 85, 3) := by decide +kernel
theorem dd_M_isBreak_5 : decode bb_M_isBreak 5 = .ok (.if_icmp .ne (5), 3) := by decide +kernel
theorem dd_M_isBreak_8 : decode bb_M_isBreak 8 = .ok (.iconst 1, 1) := by decide +kernel
theorem dd_M_isBreak_9 : decode bb_M_isBreak 9 = .ok (.ireturn, 1) := by decide +kernel
theorem dd_M_isBreak_10 : decode bb_M_isBreak 10 = .ok (.aload_n 0, 1) := by decide +kernel
theorem dd_M_isBreak_11 : decode bb_M_isBreak 11 = .ok (.getfield 7, 3) := by decide +kernel
theorem dd_M_isBreak_14 : decode bb_M_isBreak 14 = .ok (.iload_n 1, 1) := by decide +kernel
theorem dd_M_isBreak_15 : decode bb_M_isBreak 15 = .ok (.iaload, 1) := by decide +kernel
theorem dd_M_isBreak_16 : decode bb_M_isBreak 16 = .ok (.istore_n 2, 1) := by decide +kernel
theorem dd_M_isBreak_17 : decode bb_M_isBreak 17 = .ok (.iload_n 2, 1) := by decide +kernel
theorem dd_M_isBreak_18 : decode bb_M_isBreak 18 = .ok (.iconst 1, 1) := by decide +kernel
theorem dd_M_isBreak_19 : decode bb_M_isBreak 19 = .ok (.if_icmp .ne (36), 3) := by decide +kernel
theorem dd_M_isBreak_22 : decode bb_M_isBreak 22 = .ok (.iload_n 1, 1) := by decide +kernel
theorem dd_M_isBreak_23 : decode bb_M_isBreak 23 = .ok (.ifCond .le (30), 3) := by decide +kernel
theorem dd_M_isBreak_26 : decode bb_M_isBreak 26 = .ok (.aload_n 0, 1) := by decide +kernel
theorem dd_M_isBreak_27 : decode bb_M_isBreak 27 = .ok (.getfield 7, 3) := by decide +kernel
theorem dd_M_isBreak_30 : decode bb_M_isBreak 30 = .ok (.iload_n 1, 1) := by decide +kernel
theorem dd_M_isBreak_31 : decode bb_M_isBreak 31 = .ok (.iconst 1, 1) := by decide +kernel
theorem dd_M_isBreak_32 : decode bb_M_isBreak 32 = .ok (.isub, 1) := by decide +kernel
theorem dd_M_isBreak_33 : decode bb_M_isBreak 33 = .ok (.iaload, 1) := by decide +kernel
theorem dd_M_isBreak_34 : decode bb_M_isBreak 34 = .ok (.ifCond .eq (15), 3) := by decide +kernel
theorem dd_M_isBreak_37 : decode bb_M_isBreak 37 = .ok (.aload_n 0, 1) := by decide +kernel
theorem dd_M_isBreak_38 : decode bb_M_isBreak 38 = .ok (.getfield 7, 3) := by decide +kernel
theorem dd_M_isBreak_41 : decode bb_M_isBreak 41 = .ok (.iload_n 1, 1) := by decide +kernel
theorem dd_M_isBreak_42 : decode bb_M_isBreak 42 = .ok (.iconst 1, 1) := by decide +kernel
theorem dd_M_isBreak_43 : decode bb_M_isBreak 43 = .ok (.isub, 1) := by decide +kernel
theorem dd_M_isBreak_44 : decode bb_M_isBreak 44 = .ok (.iaload, 1) := by decide +kernel
theorem dd_M_isBreak_45 : decode bb_M_isBreak 45 = .ok (.iconst 4, 1) := by decide +kernel
theorem dd_M_isBreak_46 : decode bb_M_isBreak 46 = .ok (.if_icmp .ne (7), 3) := by decide +kernel
theorem dd_M_isBreak_49 : decode bb_M_isBreak 49 = .ok (.iconst 1, 1) := by decide +kernel
theorem dd_M_isBreak_50 : decode bb_M_isBreak 50 = .ok (.goto (4), 3) := by decide +kernel
theorem dd_M_isBreak_53 : decode bb_M_isBreak 53 = .ok (.iconst 0, 1) := by decide +kernel
theorem dd_M_isBreak_54 : decode bb_M_isBreak 54 = .ok (.ireturn, 1) := by decide +kernel
theorem dd_M_isBreak_55 : decode bb_M_isBreak 55 = .ok (.iload_n 2, 1) := by decide +kernel
theorem dd_M_isBreak_56 : decode bb_M_isBreak 56 = .ok (.iconst 2, 1) := by decide +kernel
theorem dd_M_isBreak_57 : decode bb_M_isBreak 57 = .ok (.if_icmp .ne (31), 3) := by decide +kernel
theorem dd_M_isBreak_60 : decode bb_M_isBreak 60 = .ok (.iload_n 1, 1) := by decide +kernel
theorem dd_M_isBreak_61 : decode bb_M_isBreak 61 = .ok (.iconst 1, 1) := by decide +kernel
theorem dd_M_isBreak_62 : decode bb_M_isBreak 62 = .ok (.iadd, 1) := by decide +kernel
theorem dd_M_isBreak_63 : decode bb_M_isBreak 63 = .ok (.aload_n 0, 1) := by decide +kernel
theorem dd_M_isBreak_64 : decode bb_M_isBreak 64 = .ok (.getfield 85, 3) := by decide +kernel
theorem dd_M_isBreak_67 : decode bb_M_isBreak 67 = .ok (.if_icmp .ge (19), 3) := by decide +kernel
theorem dd_M_isBreak_70 : decode bb_M_isBreak 70 = .ok (.aload_n 0, 1) := by decide +kernel
theorem dd_M_isBreak_71 : decode bb_M_isBreak 71 = .ok (.getfield 7, 3) := by decide +kernel
theorem dd_M_isBreak_74 : decode bb_M_isBreak 74 = .ok (.iload_n 1, 1) := by decide +kernel
theorem dd_M_isBreak_75 : decode bb_M_isBreak 75 = .ok (.iconst 1, 1) := by decide +kernel
theorem dd_M_isBreak_76 : decode bb_M_isBreak 76 = .ok (.iadd, 1) := by decide +kernel
theorem dd_M_isBreak_77 : decode bb_M_isBreak 77 = .ok (.iaload, 1) := by decide +kernel
theorem dd_M_isBreak_78 : decode bb_M_isBreak 78 = .ok (.iconst 1, 1) := by decide +kernel
theorem dd_M_isBreak_79 : decode bb_M_isBreak 79 = .ok (.if_icmp .ne (7), 3) := by decide +kernel
theorem dd_M_isBreak_82 : decode bb_M_isBreak 82 = .ok (.iconst 1, 1) := by decide +kernel
theorem dd_M_isBreak_83 : decode bb_M_isBreak 83 = .ok (.goto (4), 3) := by decide +kernel
theorem dd_M_isBreak_86 : decode bb_M_isBreak 86 = .ok (.iconst 0, 1) := by decide +kernel
theorem dd_M_isBreak_87 : decode bb_M_isBreak 87 = .ok (.ireturn, 1) := by decide +kernel
theorem dd_M_isBreak_88 : decode bb_M_isBreak 88 = .ok (.iload_n 2, 1) := by decide +kernel
theorem dd_M_isBreak_89 : decode bb_M_isBreak 89 = .ok (.iconst 3, 1) := by decide +kernel
theorem dd_M_isBreak_90 : decode bb_M_isBreak 90 = .ok (.if_icmp .ne (23), 3) := by decide +kernel
theorem dd_M_isBreak_93 : decode bb_M_isBreak 93 = .ok (.aload_n 0, 1) := by decide +kernel
theorem dd_M_isBreak_94 : decode bb_M_isBreak 94 = .ok (.getfield 13, 3) := by decide +kernel
theorem dd_M_isBreak_97 : decode bb_M_isBreak 97 = .ok (.iload_n 1, 1) := by decide +kernel
theorem dd_M_isBreak_98 : decode bb_M_isBreak 98 = .ok (.iaload, 1) := by decide +kernel
theorem dd_M_isBreak_99 : decode bb_M_isBreak 99 = .ok (.sipush (10000), 3) := by decide +kernel
theorem dd_M_isBreak_102 : decode bb_M_isBreak 102 = .ok (.if_icmp .ge (7), 3) := by decide +kernel
theorem dd_M_isBreak_105 : decode bb_M_isBreak 105 = .ok (.iconst 1, 1) := by decide +kernel
theorem dd_M_isBreak_106 : decode bb_M_isBreak 106 = .ok (.goto (36), 3) := by decide +kernel
theorem dd_M_isBreak_109 : decode bb_M_isBreak 109 = .ok (.iconst 0, 1) := by decide +kernel
theorem dd_M_isBreak_110 : decode bb_M_isBreak 110 = .ok (.goto (32), 3) := by decide +kernel
theorem dd_M_isBreak_113 : decode bb_M_isBreak 113 = .ok (.iload_n 2, 1) := by decide +kernel
theorem dd_M_isBreak_114 : decode bb_M_isBreak 114 = .ok (.iconst 4, 1) := by decide +kernel
theorem dd_M_isBreak_115 : decode bb_M_isBreak 115 = .ok (.if_icmp .ne (26), 3) := by decide +kernel
theorem dd_M_isBreak_118 : decode bb_M_isBreak 118 = .ok (.aload_n 0, 1) := by decide +kernel
theorem dd_M_isBreak_119 : decode bb_M_isBreak 119 = .ok (.getfield 92, 3) := by decide +kernel
theorem dd_M_isBreak_122 : decode bb_M_isBreak 122 = .ok (.iconst 1, 1) := by decide +kernel
theorem dd_M_isBreak_123 : decode bb_M_isBreak 123 = .ok (.if_icmp .gt (14), 3) := by decide +kernel
theorem dd_M_isBreak_126 : decode bb_M_isBreak 126 = .ok (.aload_n 0, 1) := by decide +kernel
theorem dd_M_isBreak_127 : decode bb_M_isBreak 127 = .ok (.getfield 19, 3) := by decide +kernel
theorem dd_M_isBreak_130 : decode bb_M_isBreak 130 = .ok (.iload_n 1, 1) := by decide +kernel
theorem dd_M_isBreak_131 : decode bb_M_isBreak 131 = .ok (.iaload, 1) := by decide +kernel
theorem dd_M_isBreak_132 : decode bb_M_isBreak 132 = .ok (.iconst 4, 1) := by decide +kernel
theorem dd_M_isBreak_133 : decode bb_M_isBreak 133 = .ok (.iand, 1) := by decide +kernel
theorem dd_M_isBreak_134 : decode bb_M_isBreak 134 = .ok (.ifCond .ne (7), 3) := by decide +kernel
theorem dd_M_isBreak_137 : decode bb_M_isBreak 137 = .ok (.iconst 1, 1) := by decide +kernel
theorem dd_M_isBreak_138 : decode bb_M_isBreak 138 = .ok (.goto (4), 3) := by decide +kernel
theorem dd_M_isBreak_141 : decode bb_M_isBreak 141 = .ok (.iconst 0, 1) := by decide +kernel
theorem dd_M_isBreak_142 : decode bb_M_isBreak 142 = .ok (.ireturn, 1) := by decide +kernel

set_option maxHeartbeats 4000000 in
set_option maxRecDepth 100000 in
theorem ct_M_isBreak (l : Launch) (D : va_G) (cI cJ cZ : ClassId) (sz : Nat) (o : Nat) (th : Nat) (cn : Nat) (a0 : Nat) (a1 : Nat) (a2 : Nat) (a3 : Nat) (a4 : Nat) (a5 : Nat) (mn : Nat) (a6 : Nat) (a7 : Nat) (ps : Nat) (bk : Nat) (a8 : Nat) (a9 : Nat) (a10 : Nat) (a11 : Nat) (a12 : Nat) (a13 : Nat) (a14 : Nat) (a15 : Nat) (kf : Nat) (lb : Int32) (lc : Nat) (lo : Int64) (el : Nat) (ec : Nat) (eo : Int64) (eb : Int32) (ed : Int64) (mp : Nat) (ml : Nat) (md : Int64) (mo : Int64) (mb : Int32) (a16 : Nat) (a17 : Nat) (kd : Nat → Int32) (wd : Nat → Int32) (od : Nat → Int32) (i : Nat) (hi : i ≤ cn) (hc : cn ≤ 4096) (hps : ps ≤ 3) : kx_Mi l yy_M_isBreak ww_M_isBreak ({ frames := 0, cells := 0, slots := 0, locals := 0 }) D vwCl (kx_ty cI cJ cZ) [.ref o, .int (nI i)] [(o, .inr (0, [.int (nI th), .int (nI cn), .ref a0, .ref a1, .ref a2, .ref a3, .ref a4, .ref a5, .int (nI mn), .ref a6, .ref a7, .int (nI ps), .int (nI bk), .ref a8, .ref a9, .ref a10, .ref a11, .ref a12, .ref a13, .ref a14, .ref a15, .int (nI kf), .int lb, .int (nI lc), .long lo, .int (nI el), .int (nI ec), .long eo, .int eb, .long ed, .int (nI mp), .int (nI ml), .long md, .long mo, .int mb, .ref a16, .ref a17])), (a0, .inl (cI, 4097, .inl kd)), (a1, .inl (cI, 4097, .inl wd)), (a3, .inl (cI, 4097, .inl od))] sz (fun (r : Int32) (u : Unit) => r = kb_p (pm_br kd wd od cn ps i)) (fun (u : Unit) => [(o, .inr (0, [.int (nI th), .int (nI cn), .ref a0, .ref a1, .ref a2, .ref a3, .ref a4, .ref a5, .int (nI mn), .ref a6, .ref a7, .int (nI ps), .int (nI bk), .ref a8, .ref a9, .ref a10, .ref a11, .ref a12, .ref a13, .ref a14, .ref a15, .int (nI kf), .int lb, .int (nI lc), .long lo, .int (nI el), .int (nI ec), .long eo, .int eb, .long ed, .int (nI mp), .int (nI ml), .long md, .long mo, .int mb, .ref a16, .ref a17])), (a0, .inl (cI, 4097, .inl kd)), (a1, .inl (cI, 4097, .inl wd)), (a3, .inl (cI, 4097, .inl od))]) 0 0 := by
  refine kx_starti (by decide) rfl (Nat.le_of_ble_eq_true rfl) ?_
  intro p e s m below meth c A ls hx hb hr hml hts hown hlocks hin hP hK hD hA hS hl
  have hl : lv_has ls 3 [(0, .ref o), (1, .int (nI i))] := hl
  have hown : s.vm.findClass rr_M = some m.cls := hown
  have lk0 := hts _ (kx_m kw_799)
  have hin0 : ∀ w ∈ u_ws rr_M tt_M 37, w ∈ ww_M_isBreak := fun w h => kx_m (kf_M w h)
  have lk2 := hts _ (kx_m kw_800)
  have lk3 := hts _ (kx_m kw_809)
  have lk4 := hts _ (kx_m kw_803)
  have lk5 := hts _ (kx_m kw_801)
  obtain ⟨H, hH⟩ : ∃ H, H = s.heap := ⟨_, rfl⟩
  obtain ⟨locs, hlocs⟩ : ∃ z : List Loc, z = [] := ⟨_, rfl⟩
  have hP : va_P D vwCl [(o, .inr (0, [.int (nI th), .int (nI cn), .ref a0, .ref a1, .ref a2, .ref a3, .ref a4, .ref a5, .int (nI mn), .ref a6, .ref a7, .int (nI ps), .int (nI bk), .ref a8, .ref a9, .ref a10, .ref a11, .ref a12, .ref a13, .ref a14, .ref a15, .int (nI kf), .int lb, .int (nI lc), .long lo, .int (nI el), .int (nI ec), .long eo, .int eb, .long ed, .int (nI mp), .int (nI ml), .long md, .long mo, .int mb, .ref a16, .ref a17])), (a0, .inl (cI, 4097, .inl kd)), (a1, .inl (cI, 4097, .inl wd)), (a3, .inl (cI, 4097, .inl od))] H := by rw [hH]; exact hP
  have hS : va_S A s.heap H locs := by rw [hH, hlocs]; exact hS
  refine kx_gen hH hlocs ?_
  clear hH hlocs
  refine lv_iload_n hx hb dd_M_isBreak_0 rfl (lv_at hl 1 rfl) ?_
  refine lv_aload_n hx hb dd_M_isBreak_1 rfl (lv_at hl 0 rfl) ?_
  refine va_get (D := D) (ci := 0) (v := .int (nI cn)) (C := rr_M) (T := tt_M) (N := 37) hx hb hts hin0 hown hK hP 0 rfl rfl 1 (by decide) lk0 (fun _ h9 => h9) rfl dd_M_isBreak_2 ?_
  refine lv_icmp_ne (tgt := 10) hx hb dd_M_isBreak_5 (by decide) (fun c5 => ?_) (fun c5 => ?_)
  · skip
    have c5 : ¬ (i = cn) := fun h => c5 ((nI_eq (by omega) (by omega)).mpr h)
    refine lv_aload_n hx hb dd_M_isBreak_10 rfl (lv_at hl 0 rfl) ?_
    refine va_get (D := D) (ci := 0) (v := .ref a0) (C := rr_M) (T := tt_M) (N := 37) hx hb hts hin0 hown hK hP 0 rfl rfl 2 (by decide) lk2 (fun _ h9 => h9) rfl dd_M_isBreak_11 ?_
    refine lv_iload_n hx hb dd_M_isBreak_14 rfl (lv_at hl 1 rfl) ?_
    refine kx_iald (q0 := 1) (t0 := 0) hx hb dd_M_isBreak_15 hK hP rfl rfl (by omega) (by omega) ?_
    refine lv_istore_n (lv' := [(2, .int (kd i)), (0, .ref o), (1, .int (nI i))]) hx hb dd_M_isBreak_16 rfl hl (by decide) rfl (fun ls hl => ?_)
    refine lv_iload_n hx hb dd_M_isBreak_17 rfl (lv_at hl 0 rfl) ?_
    refine lv_iconst (v := nI 1) hx hb dd_M_isBreak_18 (by decide) ?_
    refine lv_icmp_ne (tgt := 55) hx hb dd_M_isBreak_19 (by decide) (fun c19 => ?_) (fun c19 => ?_)
    · skip
      refine lv_iload_n hx hb dd_M_isBreak_55 rfl (lv_at hl 0 rfl) ?_
      refine lv_iconst (v := nI 2) hx hb dd_M_isBreak_56 (by decide) ?_
      refine lv_icmp_ne (tgt := 88) hx hb dd_M_isBreak_57 (by decide) (fun c57 => ?_) (fun c57 => ?_)
      · skip
        refine lv_iload_n hx hb dd_M_isBreak_88 rfl (lv_at hl 0 rfl) ?_
        refine lv_iconst (v := nI 3) hx hb dd_M_isBreak_89 (by decide) ?_
        refine lv_icmp_ne (tgt := 113) hx hb dd_M_isBreak_90 (by decide) (fun c90 => ?_) (fun c90 => ?_)
        · skip
          refine lv_iload_n hx hb dd_M_isBreak_113 rfl (lv_at hl 0 rfl) ?_
          refine lv_iconst (v := nI 4) hx hb dd_M_isBreak_114 (by decide) ?_
          refine lv_icmp_ne (tgt := 141) hx hb dd_M_isBreak_115 (by decide) (fun c115 => ?_) (fun c115 => ?_)
          · skip
            refine lv_iconst (v := nI 0) hx hb dd_M_isBreak_141 (by decide) ?_
            exact kx_zret hx hb hr hlocks hK hS dd_M_isBreak_142 (by decide) () hP hD (by first | exact kb_t (by simp_all [pm_br] <;> omega) | exact kb_f (by simp_all [pm_br]))
          · skip
            refine lv_aload_n hx hb dd_M_isBreak_118 rfl (lv_at hl 1 rfl) ?_
            refine va_get (D := D) (ci := 0) (v := .int (nI ps)) (C := rr_M) (T := tt_M) (N := 37) hx hb hts hin0 hown hK hP 0 rfl rfl 11 (by decide) lk3 (fun _ h9 => h9) rfl dd_M_isBreak_119 ?_
            refine lv_iconst (v := nI 1) hx hb dd_M_isBreak_122 (by decide) ?_
            refine lv_icmp_gt (tgt := 137) hx hb dd_M_isBreak_123 (by decide) (fun c123 => ?_) (fun c123 => ?_)
            · skip
              have c123 : 1 < ps := (nI_ltI (by omega) (by omega)).mp c123
              refine lv_iconst (v := nI 1) hx hb dd_M_isBreak_137 (by decide) ?_
              refine lv_goto (tgt := 142) hx hb dd_M_isBreak_138 (by decide) ?_
              exact kx_zret hx hb hr hlocks hK hS dd_M_isBreak_142 (by decide) () hP hD (by first | exact kb_t (by simp_all [pm_br] <;> omega) | exact kb_f (by simp_all [pm_br]))
            · skip
              have c123 : ¬ (1 < ps) := fun h => c123 ((nI_ltI (by omega) (by omega)).mpr h)
              refine lv_aload_n hx hb dd_M_isBreak_126 rfl (lv_at hl 1 rfl) ?_
              refine va_get (D := D) (ci := 0) (v := .ref a3) (C := rr_M) (T := tt_M) (N := 37) hx hb hts hin0 hown hK hP 0 rfl rfl 5 (by decide) lk4 (fun _ h9 => h9) rfl dd_M_isBreak_127 ?_
              refine lv_iload_n hx hb dd_M_isBreak_130 rfl (lv_at hl 2 rfl) ?_
              refine kx_iald (q0 := 3) (t0 := 0) hx hb dd_M_isBreak_131 hK hP rfl rfl (by omega) (by omega) ?_
              refine lv_iconst (v := nI 4) hx hb dd_M_isBreak_132 (by decide) ?_
              refine lv_iand hx hb dd_M_isBreak_133 ?_
              refine lv_if_ne (tgt := 141) hx hb dd_M_isBreak_134 (by decide) (fun c134 => ?_) (fun c134 => ?_)
              · skip
                refine lv_iconst (v := nI 0) hx hb dd_M_isBreak_141 (by decide) ?_
                exact kx_zret hx hb hr hlocks hK hS dd_M_isBreak_142 (by decide) () hP hD (by first | exact kb_t (by simp_all [pm_br] <;> omega) | exact kb_f (by simp_all [pm_br]))
              · skip
                refine lv_iconst (v := nI 1) hx hb dd_M_isBreak_137 (by decide) ?_
                refine lv_goto (tgt := 142) hx hb dd_M_isBreak_138 (by decide) ?_
                exact kx_zret hx hb hr hlocks hK hS dd_M_isBreak_142 (by decide) () hP hD (by first | exact kb_t (by simp_all [pm_br] <;> omega) | exact kb_f (by simp_all [pm_br]))
        · skip
          refine lv_aload_n hx hb dd_M_isBreak_93 rfl (lv_at hl 1 rfl) ?_
          refine va_get (D := D) (ci := 0) (v := .ref a1) (C := rr_M) (T := tt_M) (N := 37) hx hb hts hin0 hown hK hP 0 rfl rfl 3 (by decide) lk5 (fun _ h9 => h9) rfl dd_M_isBreak_94 ?_
          refine lv_iload_n hx hb dd_M_isBreak_97 rfl (lv_at hl 2 rfl) ?_
          refine kx_iald (q0 := 2) (t0 := 0) hx hb dd_M_isBreak_98 hK hP rfl rfl (by omega) (by omega) ?_
          refine lv_sipush (v := nI 10000) hx hb dd_M_isBreak_99 (by decide) ?_
          refine lv_icmp_ge (tgt := 109) hx hb dd_M_isBreak_102 (by decide) (fun c102 => ?_) (fun c102 => ?_)
          · skip
            refine lv_iconst (v := nI 0) hx hb dd_M_isBreak_109 (by decide) ?_
            refine lv_goto (tgt := 142) hx hb dd_M_isBreak_110 (by decide) ?_
            exact kx_zret hx hb hr hlocks hK hS dd_M_isBreak_142 (by decide) () hP hD (by first | exact kb_t (by simp_all [pm_br] <;> omega) | exact kb_f (by simp_all [pm_br]))
          · skip
            refine lv_iconst (v := nI 1) hx hb dd_M_isBreak_105 (by decide) ?_
            refine lv_goto (tgt := 142) hx hb dd_M_isBreak_106 (by decide) ?_
            exact kx_zret hx hb hr hlocks hK hS dd_M_isBreak_142 (by decide) () hP hD (by first | exact kb_t (by simp_all [pm_br] <;> omega) | exact kb_f (by simp_all [pm_br]))
      · skip
        refine lv_iload_n hx hb dd_M_isBreak_60 rfl (lv_at hl 2 rfl) ?_
        refine lv_iconst (v := nI 1) hx hb dd_M_isBreak_61 (by decide) ?_
        refine kx_iadd hx hb dd_M_isBreak_62 ?_
        refine lv_aload_n hx hb dd_M_isBreak_63 rfl (lv_at hl 1 rfl) ?_
        refine va_get (D := D) (ci := 0) (v := .int (nI cn)) (C := rr_M) (T := tt_M) (N := 37) hx hb hts hin0 hown hK hP 0 rfl rfl 1 (by decide) lk0 (fun _ h9 => h9) rfl dd_M_isBreak_64 ?_
        refine lv_icmp_ge (tgt := 86) hx hb dd_M_isBreak_67 (by decide) (fun c67 => ?_) (fun c67 => ?_)
        · skip
          have c67 : cn ≤ (i + 1) := (nI_leI (by omega) (by omega)).mp c67
          refine lv_iconst (v := nI 0) hx hb dd_M_isBreak_86 (by decide) ?_
          exact kx_zret hx hb hr hlocks hK hS dd_M_isBreak_87 (by decide) () hP hD (by first | exact kb_t (by simp_all [pm_br] <;> omega) | exact kb_f (by simp_all [pm_br]))
        · skip
          have c67 : ¬ (cn ≤ (i + 1)) := fun h => c67 ((nI_leI (by omega) (by omega)).mpr h)
          refine lv_aload_n hx hb dd_M_isBreak_70 rfl (lv_at hl 1 rfl) ?_
          refine va_get (D := D) (ci := 0) (v := .ref a0) (C := rr_M) (T := tt_M) (N := 37) hx hb hts hin0 hown hK hP 0 rfl rfl 2 (by decide) lk2 (fun _ h9 => h9) rfl dd_M_isBreak_71 ?_
          refine lv_iload_n hx hb dd_M_isBreak_74 rfl (lv_at hl 2 rfl) ?_
          refine lv_iconst (v := nI 1) hx hb dd_M_isBreak_75 (by decide) ?_
          refine kx_iadd hx hb dd_M_isBreak_76 ?_
          refine kx_iald (q0 := 1) (t0 := 0) hx hb dd_M_isBreak_77 hK hP rfl rfl (by omega) (by omega) ?_
          refine lv_iconst (v := nI 1) hx hb dd_M_isBreak_78 (by decide) ?_
          refine lv_icmp_ne (tgt := 86) hx hb dd_M_isBreak_79 (by decide) (fun c79 => ?_) (fun c79 => ?_)
          · skip
            refine lv_iconst (v := nI 0) hx hb dd_M_isBreak_86 (by decide) ?_
            exact kx_zret hx hb hr hlocks hK hS dd_M_isBreak_87 (by decide) () hP hD (by first | exact kb_t (by simp_all [pm_br] <;> omega) | exact kb_f (by simp_all [pm_br]))
          · skip
            refine lv_iconst (v := nI 1) hx hb dd_M_isBreak_82 (by decide) ?_
            refine lv_goto (tgt := 87) hx hb dd_M_isBreak_83 (by decide) ?_
            exact kx_zret hx hb hr hlocks hK hS dd_M_isBreak_87 (by decide) () hP hD (by first | exact kb_t (by simp_all [pm_br] <;> omega) | exact kb_f (by simp_all [pm_br]))
    · skip
      refine lv_iload_n hx hb dd_M_isBreak_22 rfl (lv_at hl 2 rfl) ?_
      refine lv_if_le (tgt := 53) hx hb dd_M_isBreak_23 (by decide) (fun c23 => ?_) (fun c23 => ?_)
      · skip
        have c23 : i ≤ 0 := (kn_le0 (by omega)).mp c23
        refine lv_iconst (v := nI 0) hx hb dd_M_isBreak_53 (by decide) ?_
        exact kx_zret hx hb hr hlocks hK hS dd_M_isBreak_54 (by decide) () hP hD (by first | exact kb_t (by simp_all [pm_br] <;> omega) | exact kb_f (by simp_all [pm_br]))
      · skip
        have c23 : ¬ (i ≤ 0) := fun h => c23 ((kn_le0 (by omega)).mpr h)
        refine lv_aload_n hx hb dd_M_isBreak_26 rfl (lv_at hl 1 rfl) ?_
        refine va_get (D := D) (ci := 0) (v := .ref a0) (C := rr_M) (T := tt_M) (N := 37) hx hb hts hin0 hown hK hP 0 rfl rfl 2 (by decide) lk2 (fun _ h9 => h9) rfl dd_M_isBreak_27 ?_
        refine lv_iload_n hx hb dd_M_isBreak_30 rfl (lv_at hl 2 rfl) ?_
        refine lv_iconst (v := nI 1) hx hb dd_M_isBreak_31 (by decide) ?_
        refine kx_isub hx hb dd_M_isBreak_32 (by omega) ?_
        refine kx_iald (q0 := 1) (t0 := 0) hx hb dd_M_isBreak_33 hK hP rfl rfl (by omega) (by omega) ?_
        refine lv_if_eq (tgt := 49) hx hb dd_M_isBreak_34 (by decide) (fun c34 => ?_) (fun c34 => ?_)
        · skip
          refine lv_iconst (v := nI 1) hx hb dd_M_isBreak_49 (by decide) ?_
          refine lv_goto (tgt := 54) hx hb dd_M_isBreak_50 (by decide) ?_
          exact kx_zret hx hb hr hlocks hK hS dd_M_isBreak_54 (by decide) () hP hD (by first | exact kb_t (by simp_all [pm_br] <;> omega) | exact kb_f (by simp_all [pm_br]))
        · skip
          refine lv_aload_n hx hb dd_M_isBreak_37 rfl (lv_at hl 1 rfl) ?_
          refine va_get (D := D) (ci := 0) (v := .ref a0) (C := rr_M) (T := tt_M) (N := 37) hx hb hts hin0 hown hK hP 0 rfl rfl 2 (by decide) lk2 (fun _ h9 => h9) rfl dd_M_isBreak_38 ?_
          refine lv_iload_n hx hb dd_M_isBreak_41 rfl (lv_at hl 2 rfl) ?_
          refine lv_iconst (v := nI 1) hx hb dd_M_isBreak_42 (by decide) ?_
          refine kx_isub hx hb dd_M_isBreak_43 (by omega) ?_
          refine kx_iald (q0 := 1) (t0 := 0) hx hb dd_M_isBreak_44 hK hP rfl rfl (by omega) (by omega) ?_
          refine lv_iconst (v := nI 4) hx hb dd_M_isBreak_45 (by decide) ?_
          refine lv_icmp_ne (tgt := 53) hx hb dd_M_isBreak_46 (by decide) (fun c46 => ?_) (fun c46 => ?_)
          · skip
            refine lv_iconst (v := nI 0) hx hb dd_M_isBreak_53 (by decide) ?_
            exact kx_zret hx hb hr hlocks hK hS dd_M_isBreak_54 (by decide) () hP hD (by first | exact kb_t (by simp_all [pm_br] <;> omega) | exact kb_f (by simp_all [pm_br]))
          · skip
            refine lv_iconst (v := nI 1) hx hb dd_M_isBreak_49 (by decide) ?_
            refine lv_goto (tgt := 54) hx hb dd_M_isBreak_50 (by decide) ?_
            exact kx_zret hx hb hr hlocks hK hS dd_M_isBreak_54 (by decide) () hP hD (by first | exact kb_t (by simp_all [pm_br] <;> omega) | exact kb_f (by simp_all [pm_br]))
  · skip
    have c5 : i = cn := (nI_eq (by omega) (by omega)).mp c5
    refine lv_iconst (v := nI 1) hx hb dd_M_isBreak_8 (by decide) ?_
    exact kx_zret hx hb hr hlocks hK hS dd_M_isBreak_9 (by decide) () hP hD (by first | exact kb_t (by simp_all [pm_br] <;> omega) | exact kb_f (by simp_all [pm_br]))
