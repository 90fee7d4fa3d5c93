theorem kt_17_0_1_2_4_9 {c0 c1 c2 c3 c4 c5 c6 c7 c8 c9 c10 c11 c12 c13 c14 c15 c16 : Nat × va_E} : ([0, 1, 2, 4, 9] : List Nat).filterMap (fun i => ([c0, c1, c2, c3, c4, c5, c6, c7, c8, c9, c10, c11, c12, c13, c14, c15, c16] : va_W)[i]?) = ([c0, c1, c2, c4, c9] : va_W) := rfl
theorem ks_17_0_1_2_4_9 {c0 c1 c2 c3 c4 c5 c6 c7 c8 c9 c10 c11 c12 c13 c14 c15 c16 : Nat × va_E} : ([0, 1, 2, 4, 9] : List Nat).map (fun i => ([c0, c1, c2, c3, c4, c5, c6, c7, c8, c9, c10, c11, c12, c13, c14, c15, c16] : va_W)[i]?) = ([c0, c1, c2, c4, c9] : va_W).map some := rfl
theorem ks_17_3_5_6_7_8_10_11_12_13_14_15_16 {c0 c1 c2 c3 c4 c5 c6 c7 c8 c9 c10 c11 c12 c13 c14 c15 c16 : Nat × va_E} : ([3, 5, 6, 7, 8, 10, 11, 12, 13, 14, 15, 16] : List Nat).map (fun i => ([c0, c1, c2, c3, c4, c5, c6, c7, c8, c9, c10, c11, c12, c13, c14, c15, c16] : va_W)[i]?) = ([c3, c5, c6, c7, c8, c10, c11, c12, c13, c14, c15, c16] : va_W).map some := rfl
theorem kt_17_12_13_14_0_15_1_2_3_4_16_5_6_7_8_9_10_11 {c0 c1 c2 c3 c4 c5 c6 c7 c8 c9 c10 c11 c12 c13 c14 c15 c16 : Nat × va_E} : ([12, 13, 14, 0, 15, 1, 2, 3, 4, 16, 5, 6, 7, 8, 9, 10, 11] : List Nat).filterMap (fun i => ([c0, c1, c2, c3, c4, c5, c6, c7, c8, c9, c10, c11, c12, c13, c14, c15, c16] : va_W)[i]?) = ([c12, c13, c14, c0, c15, c1, c2, c3, c4, c16, c5, c6, c7, c8, c9, c10, c11] : va_W) := rfl
theorem ks_17_12_13_14_0_15_1_2_3_4_16_5_6_7_8_9_10_11 {c0 c1 c2 c3 c4 c5 c6 c7 c8 c9 c10 c11 c12 c13 c14 c15 c16 : Nat × va_E} : ([12, 13, 14, 0, 15, 1, 2, 3, 4, 16, 5, 6, 7, 8, 9, 10, 11] : List Nat).map (fun i => ([c0, c1, c2, c3, c4, c5, c6, c7, c8, c9, c10, c11, c12, c13, c14, c15, c16] : va_W)[i]?) = ([c12, c13, c14, c0, c15, c1, c2, c3, c4, c16, c5, c6, c7, c8, c9, c10, c11] : va_W).map some := rfl
theorem kg_17_6 {c0 c1 c2 c3 c4 c5 c6 c7 c8 c9 c10 c11 c12 c13 c14 c15 c16 : Nat × va_E} : ([c0, c1, c2, c3, c4, c5, c6, c7, c8, c9, c10, c11, c12, c13, c14, c15, c16] : va_W)[6]? = some c6 := rfl
theorem kw_24 : Cond.selects rr_M yy_M_list yy_M_list ∈ kx_T := kx_in (i := 24) (by decide +kernel) (by decide +kernel)
theorem kw_27 : Cond.selects rr_M yy_M_made yy_M_made ∈ kx_T := kx_in (i := 27) (by decide +kernel) (by decide +kernel)
theorem kw_967 : Cond.methodLink rr_M (197) yy_M_list ∈ kx_T := kx_in (i := 967) (by decide +kernel) (by decide +kernel)
theorem kw_969 : Cond.instanceMethod yy_M_list ∈ kx_T := kx_in (i := 969) (by decide +kernel) (by decide +kernel)
set_option maxRecDepth 100000 in
theorem kw_970 : Cond.code yy_M_list bb_M_list 2 (some .boolean) ∈ kx_T := kx_in (i := 970) rfl (by decide +kernel)
theorem kw_979 : Cond.methodLink rr_M (200) yy_M_made ∈ kx_T := kx_in (i := 979) (by decide +kernel) (by decide +kernel)
theorem kw_981 : Cond.instanceMethod yy_M_made ∈ kx_T := kx_in (i := 981) (by decide +kernel) (by decide +kernel)
set_option maxRecDepth 100000 in
theorem kw_982 : Cond.code yy_M_made bb_M_made 5 (some .boolean) ∈ kx_T := kx_in (i := 982) rfl (by decide +kernel)
theorem dd_M_tried_0 : decode bb_M_tried 0 = .ok (.aload_n 0, 1) := by decide +kernel
theorem dd_M_tried_1 : decode bb_M_tried 1 = .ok (.invokevirtual 197, 3) := by decide +kernel
theorem dd_M_tried_4 : decode bb_M_tried 4 = .ok (.istore_n 1, 1) := by decide +kernel
theorem dd_M_tried_5 : decode bb_M_tried 5 = .ok (.aload_n 0, 1) := by decide +kernel
theorem dd_M_tried_6 : decode bb_M_tried 6 = .ok (.iconst 0, 1) := by decide +kernel
theorem dd_M_tried_7 : decode bb_M_tried 7 = .ok (.invokevirtual 200, 3) := by decide +kernel
theorem dd_M_tried_10 : decode bb_M_tried 10 = .ok (.ifCond .ne (5), 3) := by decide +kernel
theorem dd_M_tried_13 : decode bb_M_tried 13 = .ok (.iconst 0, 1) := by decide +kernel
theorem dd_M_tried_14 : decode bb_M_tried 14 = .ok (.ireturn, 1) := by decide +kernel
theorem dd_M_tried_15 : decode bb_M_tried 15 = .ok (.aload_n 0, 1) := by decide +kernel
theorem dd_M_tried_16 : decode bb_M_tried 16 = .ok (.getfield 172, 3) := by decide +kernel
theorem dd_M_tried_19 : decode bb_M_tried 19 = .ok (.istore_n 2, 1) := by decide +kernel
theorem dd_M_tried_20 : decode bb_M_tried 20 = .ok (.aload_n 0, 1) := by decide +kernel
theorem dd_M_tried_21 : decode bb_M_tried 21 = .ok (.getfield 25, 3) := by decide +kernel
theorem dd_M_tried_24 : decode bb_M_tried 24 = .ok (.bipush (8), 2) := by decide +kernel
theorem dd_M_tried_26 : decode bb_M_tried 26 = .ok (.iaload, 1) := by decide +kernel
theorem dd_M_tried_27 : decode bb_M_tried 27 = .ok (.istore_n 3, 1) := by decide +kernel
theorem dd_M_tried_28 : decode bb_M_tried 28 = .ok (.iload_n 3, 1) := by decide +kernel
theorem dd_M_tried_29 : decode bb_M_tried 29 = .ok (.ifCond .ne (7), 3) := by decide +kernel
theorem dd_M_tried_32 : decode bb_M_tried 32 = .ok (.iconst 1, 1) := by decide +kernel
theorem dd_M_tried_33 : decode bb_M_tried 33 = .ok (.goto (4), 3) := by decide +kernel
theorem dd_M_tried_36 : decode bb_M_tried 36 = .ok (.iconst 0, 1) := by decide +kernel
theorem dd_M_tried_37 : decode bb_M_tried 37 = .ok (.istore 4, 2) := by decide +kernel
theorem dd_M_tried_39 : decode bb_M_tried 39 = .ok (.iload_n 2, 1) := by decide +kernel
theorem dd_M_tried_40 : decode bb_M_tried 40 = .ok (.iload_n 3, 1) := by decide +kernel
theorem dd_M_tried_41 : decode bb_M_tried 41 = .ok (.iadd, 1) := by decide +kernel
theorem dd_M_tried_42 : decode bb_M_tried 42 = .ok (.istore 5, 2) := by decide +kernel
theorem dd_M_tried_44 : decode bb_M_tried 44 = .ok (.iload 4, 2) := by decide +kernel
theorem dd_M_tried_46 : decode bb_M_tried 46 = .ok (.ifCond .ne (50), 3) := by decide +kernel
theorem dd_M_tried_49 : decode bb_M_tried 49 = .ok (.iload 5, 2) := by decide +kernel
theorem dd_M_tried_51 : decode bb_M_tried 51 = .ok (.ifCond .le (25), 3) := by decide +kernel
theorem dd_M_tried_54 : decode bb_M_tried 54 = .ok (.iload 5, 2) := by decide +kernel
theorem dd_M_tried_56 : decode bb_M_tried 56 = .ok (.aload_n 0, 1) := by decide +kernel
theorem dd_M_tried_57 : decode bb_M_tried 57 = .ok (.getfield 95, 3) := by decide +kernel
theorem dd_M_tried_60 : decode bb_M_tried 60 = .ok (.if_icmp .gt (16), 3) := by decide +kernel
theorem dd_M_tried_63 : decode bb_M_tried 63 = .ok (.aload_n 0, 1) := by decide +kernel
theorem dd_M_tried_64 : decode bb_M_tried 64 = .ok (.iload 5, 2) := by decide +kernel
theorem dd_M_tried_66 : decode bb_M_tried 66 = .ok (.invokevirtual 200, 3) := by decide +kernel
theorem dd_M_tried_69 : decode bb_M_tried 69 = .ok (.ifCond .eq (7), 3) := by decide +kernel
theorem dd_M_tried_72 : decode bb_M_tried 72 = .ok (.iconst 1, 1) := by decide +kernel
theorem dd_M_tried_73 : decode bb_M_tried 73 = .ok (.goto (4), 3) := by decide +kernel
theorem dd_M_tried_76 : decode bb_M_tried 76 = .ok (.iconst 0, 1) := by decide +kernel
theorem dd_M_tried_77 : decode bb_M_tried 77 = .ok (.istore 4, 2) := by decide +kernel
theorem dd_M_tried_79 : decode bb_M_tried 79 = .ok (.iload 5, 2) := by decide +kernel
theorem dd_M_tried_81 : decode bb_M_tried 81 = .ok (.iload_n 3, 1) := by decide +kernel
theorem dd_M_tried_82 : decode bb_M_tried 82 = .ok (.ifCond .le (7), 3) := by decide +kernel
theorem dd_M_tried_85 : decode bb_M_tried 85 = .ok (.iconst (-1), 1) := by decide +kernel
theorem dd_M_tried_86 : decode bb_M_tried 86 = .ok (.goto (4), 3) := by decide +kernel
theorem dd_M_tried_89 : decode bb_M_tried 89 = .ok (.iconst 1, 1) := by decide +kernel
theorem dd_M_tried_90 : decode bb_M_tried 90 = .ok (.iadd, 1) := by decide +kernel
theorem dd_M_tried_91 : decode bb_M_tried 91 = .ok (.istore 5, 2) := by decide +kernel
theorem dd_M_tried_93 : decode bb_M_tried 93 = .ok (.goto (-49), 3) := by decide +kernel
theorem dd_M_tried_96 : decode bb_M_tried 96 = .ok (.iconst 1, 1) := by decide +kernel
theorem dd_M_tried_97 : decode bb_M_tried 97 = .ok (.ireturn, 1) := by decide +kernel

set_option maxHeartbeats 4000000 in
set_option maxRecDepth 100000 in
theorem ct_M_tried (l : Launch) (D : va_G) (cI cJ cZ : ClassId) (sz : Nat) (o : Nat) (th : Nat) (cn : Nat) (a0 : Nat) (a1 : Nat) (a2 : Nat) (a3 : Nat) (a4 : Nat) (a5 : Nat) (mn : Nat) (a6 : Nat) (a7 : Nat) (ps : Nat) (bk : Nat) (a8 : Nat) (a9 : Nat) (a10 : Nat) (a11 : Nat) (a12 : Nat) (a13 : Nat) (a14 : Nat) (a15 : Nat) (kf : Nat) (lb : Int32) (lc : Nat) (lo : Int64) (el : Nat) (ec : Nat) (eo : Int64) (eb : Int32) (ed : Int64) (mp : Nat) (ml : Nat) (md : Int64) (mo : Int64) (mb : Int32) (a16 : Nat) (a17 : Nat) (kd : Nat → Int32) (wd : Nat → Int32) (sr : Nat → Int32) (od : Nat → Int32) (sk : Nat → Int32) (ru : Nat → Int32) (me : Nat → Int32) (si : Nat → Int32) (it : Nat → Int32) (iz : Nat → Int32) (ou : Nat → Int64) (ba : Nat → Int32) (de : Nat → Int64) (bc : Nat → Int64) (su : Nat → Int64) (ke : Nat → Int64) (og : Nat → Nat) (hbk : (pq_c (pm_br kd wd od cn ps) (cn + 1)) ≤ 400) (hc : cn ≤ 4096) (hm : mn ≤ 256) (h1 : 1 ≤ ps) (h3 : ps ≤ 3) (hOg : ∀ x, x < cn → kd x = nI 1 → od x = nI (og x) ∧ og x ≤ 3) (hq1 : -10000 ≤ (ru 8).toInt) (hq2 : (ru 8).toInt ≤ 10000) : kx_Mi l yy_M_tried ww_M_tried ({ frames := 5, cells := 0, slots := 0, locals := 135 }) D vwCl (kx_ty cI cJ cZ) [.ref o] [(o, .inr (0, [.int (nI th), .int (nI cn), .ref a0, .ref a1, .ref a2, .ref a3, .ref a4, .ref a5, .int (nI mn), .ref a6, .ref a7, .int (nI ps), .int (nI bk), .ref a8, .ref a9, .ref a10, .ref a11, .ref a12, .ref a13, .ref a14, .ref a15, .int (nI kf), .int lb, .int (nI lc), .long lo, .int (nI el), .int (nI ec), .long eo, .int eb, .long ed, .int (nI mp), .int (nI ml), .long md, .long mo, .int mb, .ref a16, .ref a17])), (a0, .inl (cI, 4097, .inl kd)), (a1, .inl (cI, 4097, .inl wd)), (a2, .inl (cI, 4097, .inl sr)), (a3, .inl (cI, 4097, .inl od)), (a4, .inl (cI, 4097, .inl sk)), (a5, .inl (cI, 9, .inl ru)), (a6, .inl (cI, 258, .inl me)), (a7, .inl (cI, 8, .inl si)), (a8, .inl (cI, 402, .inl it)), (a9, .inl (cZ, 3216, .inl iz)), (a10, .inl (cJ, 3216, .inr (.inl ou))), (a11, .inl (cI, 3216, .inl ba)), (a12, .inl (cJ, 3216, .inr (.inl de))), (a13, .inl (cJ, 161604, .inr (.inl bc))), (a14, .inl (cJ, 6, .inr (.inl su))), (a15, .inl (cJ, 6, .inr (.inl ke)))] sz (fun (r : Int32) (u : Nat × Int32 × Nat × Int64 × Nat × Nat × Int64 × Int32 × Int64 × (Nat → Int32) × (Nat → Int64) × (Nat → Int32) × (Nat → Int64) × (Nat → Int64) × (Nat → Int64) × (Nat → Int64) × Nat × (Nat → Int32)) => (r = kb_p (0 < (pg_E kd wd sr od sk ru me si cn mn ps (pq_p (pm_br kd wd od cn ps) (cn + 1)) (pq_c (pm_br kd wd od cn ps) (cn + 1)) 0 (0, ec, eo, eb, ed) (pq_c (pm_br kd wd od cn ps) (cn + 1))).1)) ∧ (u.2.2.2.2.2.2.2.2.2.2.2.2.2.2.2.2.1 = (pq_c (pm_br kd wd od cn ps) (cn + 1)) ∧ (∀ x, x < (pq_c (pm_br kd wd od cn ps) (cn + 1)) → u.2.2.2.2.2.2.2.2.2.2.2.2.2.2.2.2.2 x = nI ((pq_p (pm_br kd wd od cn ps) (cn + 1)) x)) ∧ (0 < (pg_E kd wd sr od sk ru me si cn mn ps (pq_p (pm_br kd wd od cn ps) (cn + 1)) (pq_c (pm_br kd wd od cn ps) (cn + 1)) 0 (0, ec, eo, eb, ed) (pq_c (pm_br kd wd od cn ps) (cn + 1))).1 → pt_tr kd wd sr od sk ru me si cn mn ps (pq_p (pm_br kd wd od cn ps) (cn + 1)) (pq_c (pm_br kd wd od cn ps) (cn + 1)) (pg_E kd wd sr od sk ru me si cn mn ps (pq_p (pm_br kd wd od cn ps) (cn + 1)) (pq_c (pm_br kd wd od cn ps) (cn + 1)) 0 (0, ec, eo, eb, ed) (pq_c (pm_br kd wd od cn ps) (cn + 1))).1 (ru 8).toInt (u.2.2.2.2.1, u.2.2.2.2.2.1, u.2.2.2.2.2.2.1, u.2.2.2.2.2.2.2.1, u.2.2.2.2.2.2.2.2.1) u.2.2.2.2.2.2.2.2.2.2.2.2.2.1))) (fun (u : Nat × Int32 × Nat × Int64 × Nat × Nat × Int64 × Int32 × Int64 × (Nat → Int32) × (Nat → Int64) × (Nat → Int32) × (Nat → Int64) × (Nat → Int64) × (Nat → Int64) × (Nat → Int64) × Nat × (Nat → Int32)) => [(o, .inr (0, [.int (nI th), .int (nI cn), .ref a0, .ref a1, .ref a2, .ref a3, .ref a4, .ref a5, .int (nI mn), .ref a6, .ref a7, .int (nI ps), .int (nI u.2.2.2.2.2.2.2.2.2.2.2.2.2.2.2.2.1), .ref a8, .ref a9, .ref a10, .ref a11, .ref a12, .ref a13, .ref a14, .ref a15, .int (nI u.1), .int u.2.1, .int (nI u.2.2.1), .long u.2.2.2.1, .int (nI u.2.2.2.2.1), .int (nI u.2.2.2.2.2.1), .long u.2.2.2.2.2.2.1, .int u.2.2.2.2.2.2.2.1, .long u.2.2.2.2.2.2.2.2.1, .int (nI mp), .int (nI ml), .long md, .long mo, .int mb, .ref a16, .ref a17])), (a0, .inl (cI, 4097, .inl kd)), (a1, .inl (cI, 4097, .inl wd)), (a2, .inl (cI, 4097, .inl sr)), (a3, .inl (cI, 4097, .inl od)), (a4, .inl (cI, 4097, .inl sk)), (a5, .inl (cI, 9, .inl ru)), (a6, .inl (cI, 258, .inl me)), (a7, .inl (cI, 8, .inl si)), (a8, .inl (cI, 402, .inl u.2.2.2.2.2.2.2.2.2.2.2.2.2.2.2.2.2)), (a9, .inl (cZ, 3216, .inl u.2.2.2.2.2.2.2.2.2.1)), (a10, .inl (cJ, 3216, .inr (.inl u.2.2.2.2.2.2.2.2.2.2.1))), (a11, .inl (cI, 3216, .inl u.2.2.2.2.2.2.2.2.2.2.2.1)), (a12, .inl (cJ, 3216, .inr (.inl u.2.2.2.2.2.2.2.2.2.2.2.2.1))), (a13, .inl (cJ, 161604, .inr (.inl u.2.2.2.2.2.2.2.2.2.2.2.2.2.1))), (a14, .inl (cJ, 6, .inr (.inl u.2.2.2.2.2.2.2.2.2.2.2.2.2.2.1))), (a15, .inl (cJ, 6, .inr (.inl u.2.2.2.2.2.2.2.2.2.2.2.2.2.2.2.1)))]) 0 0 := by
  refine kx_starti (by decide) rfl (Nat.le_of_ble_eq_true rfl) ?_
  intro p e s m below meth c A ls hx hb hr hml hts hown hlocks hin hP hK hN hD hA hS hl
  have hl : lv_has ls 6 [(0, .ref o)] := hl
  have hown : s.vm.findClass rr_M = some m.cls := hown
  have lk0 := hts _ (kx_m kw_823)
  have hin0 : ∀ w ∈ u_ws rr_M tt_M 37, w ∈ ww_M_tried := fun w h => kx_m (kf_M w h)
  have lk2 := hts _ (kx_m kw_805)
  have lk3 := hts _ (kx_m kw_810)
  obtain ⟨H, hH⟩ : ∃ H, H = s.heap := ⟨_, rfl⟩
  obtain ⟨locs, hlocs⟩ : ∃ z : List Loc, z = [] := ⟨_, rfl⟩
  have hP : va_P D vwCl [(o, .inr (0, [.int (nI th), .int (nI cn), .ref a0, .ref a1, .ref a2, .ref a3, .ref a4, .ref a5, .int (nI mn), .ref a6, .ref a7, .int (nI ps), .int (nI bk), .ref a8, .ref a9, .ref a10, .ref a11, .ref a12, .ref a13, .ref a14, .ref a15, .int (nI kf), .int lb, .int (nI lc), .long lo, .int (nI el), .int (nI ec), .long eo, .int eb, .long ed, .int (nI mp), .int (nI ml), .long md, .long mo, .int mb, .ref a16, .ref a17])), (a0, .inl (cI, 4097, .inl kd)), (a1, .inl (cI, 4097, .inl wd)), (a2, .inl (cI, 4097, .inl sr)), (a3, .inl (cI, 4097, .inl od)), (a4, .inl (cI, 4097, .inl sk)), (a5, .inl (cI, 9, .inl ru)), (a6, .inl (cI, 258, .inl me)), (a7, .inl (cI, 8, .inl si)), (a8, .inl (cI, 402, .inl it)), (a9, .inl (cZ, 3216, .inl iz)), (a10, .inl (cJ, 3216, .inr (.inl ou))), (a11, .inl (cI, 3216, .inl ba)), (a12, .inl (cJ, 3216, .inr (.inl de))), (a13, .inl (cJ, 161604, .inr (.inl bc))), (a14, .inl (cJ, 6, .inr (.inl su))), (a15, .inl (cJ, 6, .inr (.inl ke)))] H := by rw [hH]; exact hP
  have hS : va_S A s.heap H locs := by rw [hH, hlocs]; exact hS
  refine kx_gen hH hlocs ?_
  clear hH hlocs
  refine kx_nameQ (fun Q hQ => ?_)
  refine lv_aload_n hx hb dd_M_tried_0 rfl (lv_at hl 0 rfl) ?_
  refine kx_calli (wr := [(a2, .inl (cI, 4097, .inl sr)), (a4, .inl (cI, 4097, .inl sk)), (a5, .inl (cI, 9, .inl ru)), (a6, .inl (cI, 258, .inl me)), (a7, .inl (cI, 8, .inl si)), (a9, .inl (cZ, 3216, .inl iz)), (a10, .inl (cJ, 3216, .inr (.inl ou))), (a11, .inl (cI, 3216, .inl ba)), (a12, .inl (cJ, 3216, .inr (.inl de))), (a13, .inl (cJ, 161604, .inr (.inl bc))), (a14, .inl (cJ, 6, .inr (.inl su))), (a15, .inl (cJ, 6, .inr (.inl ke)))]) (va_runV (C := rr_M) (As := []) (rest := []) ⟨hx, hb, hml, hown, hts⟩ (ct_M_list l D cI cJ cZ H.size o th cn a0 a1 a2 a3 a4 a5 mn a6 a7 ps bk a8 a9 a10 a11 a12 a13 a14 a15 kf lb lc lo el ec eo eb ed mp ml md mo mb a16 a17 kd wd od it (by omega) (by omega)) ⟨(callB_of 0 hts (kx_good kw_970) rfl rfl rfl (hts _ (kx_m kw_53)) (hts _ (kx_m kw_967)) (by decide +kernel) ⟨Nat.le_of_ble_eq_true rfl, Nat.le_of_ble_eq_true rfl⟩), (hts _ (kx_m kw_969)), (hts _ (kx_m kw_24))⟩ (kx_preV (ci := 0) (q0 := 0) hK hN (hP.sub [0, 1, 2, 4, 9] kt_17_0_1_2_4_9) (hD.sub [0, 1, 2, 4, 9] (by decide) ks_17_0_1_2_4_9) rfl kg_5_0) rfl rfl hl.1 rfl (lv_room (Nat.le_of_ble_eq_true rfl)) dd_M_tried_1 ⟨Nat.le_of_ble_eq_true rfl, Nat.le_of_ble_eq_true rfl⟩) hP hD hS hA [0, 1, 2, 4, 9] [3, 5, 6, 7, 8, 10, 11, 12, 13, 14, 15, 16] ks_17_0_1_2_4_9 ks_17_3_5_6_7_8_10_11_12_13_14_15_16 (by decide) (by decide) (fun r1 u1 H locs hw1 hP hD hS => ?_)
  obtain ⟨bk2_1, it2_1⟩ := u1
  have hP : va_P D vwCl [(a2, .inl (cI, 4097, .inl sr)), (a4, .inl (cI, 4097, .inl sk)), (a5, .inl (cI, 9, .inl ru)), (a6, .inl (cI, 258, .inl me)), (a7, .inl (cI, 8, .inl si)), (a9, .inl (cZ, 3216, .inl iz)), (a10, .inl (cJ, 3216, .inr (.inl ou))), (a11, .inl (cI, 3216, .inl ba)), (a12, .inl (cJ, 3216, .inr (.inl de))), (a13, .inl (cJ, 161604, .inr (.inl bc))), (a14, .inl (cJ, 6, .inr (.inl su))), (a15, .inl (cJ, 6, .inr (.inl ke))), (o, .inr (0, [.int (nI th), .int (nI cn), .ref a0, .ref a1, .ref a2, .ref a3, .ref a4, .ref a5, .int (nI mn), .ref a6, .ref a7, .int (nI ps), .int (nI bk2_1), .ref a8, .ref a9, .ref a10, .ref a11, .ref a12, .ref a13, .ref a14, .ref a15, .int (nI kf), .int lb, .int (nI lc), .long lo, .int (nI el), .int (nI ec), .long eo, .int eb, .long ed, .int (nI mp), .int (nI ml), .long md, .long mo, .int mb, .ref a16, .ref a17])), (a0, .inl (cI, 4097, .inl kd)), (a1, .inl (cI, 4097, .inl wd)), (a3, .inl (cI, 4097, .inl od)), (a8, .inl (cI, 402, .inl it2_1))] H := hP
  have hD : va_D A [(a2, .inl (cI, 4097, .inl sr)), (a4, .inl (cI, 4097, .inl sk)), (a5, .inl (cI, 9, .inl ru)), (a6, .inl (cI, 258, .inl me)), (a7, .inl (cI, 8, .inl si)), (a9, .inl (cZ, 3216, .inl iz)), (a10, .inl (cJ, 3216, .inr (.inl ou))), (a11, .inl (cI, 3216, .inl ba)), (a12, .inl (cJ, 3216, .inr (.inl de))), (a13, .inl (cJ, 161604, .inr (.inl bc))), (a14, .inl (cJ, 6, .inr (.inl su))), (a15, .inl (cJ, 6, .inr (.inl ke))), (o, .inr (0, [.int (nI th), .int (nI cn), .ref a0, .ref a1, .ref a2, .ref a3, .ref a4, .ref a5, .int (nI mn), .ref a6, .ref a7, .int (nI ps), .int (nI bk2_1), .ref a8, .ref a9, .ref a10, .ref a11, .ref a12, .ref a13, .ref a14, .ref a15, .int (nI kf), .int lb, .int (nI lc), .long lo, .int (nI el), .int (nI ec), .long eo, .int eb, .long ed, .int (nI mp), .int (nI ml), .long md, .long mo, .int mb, .ref a16, .ref a17])), (a0, .inl (cI, 4097, .inl kd)), (a1, .inl (cI, 4097, .inl wd)), (a3, .inl (cI, 4097, .inl od)), (a8, .inl (cI, 402, .inl it2_1))] := hD
  have hP : va_P D vwCl [(o, .inr (0, [.int (nI th), .int (nI cn), .ref a0, .ref a1, .ref a2, .ref a3, .ref a4, .ref a5, .int (nI mn), .ref a6, .ref a7, .int (nI ps), .int (nI bk2_1), .ref a8, .ref a9, .ref a10, .ref a11, .ref a12, .ref a13, .ref a14, .ref a15, .int (nI kf), .int lb, .int (nI lc), .long lo, .int (nI el), .int (nI ec), .long eo, .int eb, .long ed, .int (nI mp), .int (nI ml), .long md, .long mo, .int mb, .ref a16, .ref a17])), (a0, .inl (cI, 4097, .inl kd)), (a1, .inl (cI, 4097, .inl wd)), (a2, .inl (cI, 4097, .inl sr)), (a3, .inl (cI, 4097, .inl od)), (a4, .inl (cI, 4097, .inl sk)), (a5, .inl (cI, 9, .inl ru)), (a6, .inl (cI, 258, .inl me)), (a7, .inl (cI, 8, .inl si)), (a8, .inl (cI, 402, .inl it2_1)), (a9, .inl (cZ, 3216, .inl iz)), (a10, .inl (cJ, 3216, .inr (.inl ou))), (a11, .inl (cI, 3216, .inl ba)), (a12, .inl (cJ, 3216, .inr (.inl de))), (a13, .inl (cJ, 161604, .inr (.inl bc))), (a14, .inl (cJ, 6, .inr (.inl su))), (a15, .inl (cJ, 6, .inr (.inl ke)))] H := hP.sub [12, 13, 14, 0, 15, 1, 2, 3, 4, 16, 5, 6, 7, 8, 9, 10, 11] kt_17_12_13_14_0_15_1_2_3_4_16_5_6_7_8_9_10_11
  have hD : va_D A [(o, .inr (0, [.int (nI th), .int (nI cn), .ref a0, .ref a1, .ref a2, .ref a3, .ref a4, .ref a5, .int (nI mn), .ref a6, .ref a7, .int (nI ps), .int (nI bk2_1), .ref a8, .ref a9, .ref a10, .ref a11, .ref a12, .ref a13, .ref a14, .ref a15, .int (nI kf), .int lb, .int (nI lc), .long lo, .int (nI el), .int (nI ec), .long eo, .int eb, .long ed, .int (nI mp), .int (nI ml), .long md, .long mo, .int mb, .ref a16, .ref a17])), (a0, .inl (cI, 4097, .inl kd)), (a1, .inl (cI, 4097, .inl wd)), (a2, .inl (cI, 4097, .inl sr)), (a3, .inl (cI, 4097, .inl od)), (a4, .inl (cI, 4097, .inl sk)), (a5, .inl (cI, 9, .inl ru)), (a6, .inl (cI, 258, .inl me)), (a7, .inl (cI, 8, .inl si)), (a8, .inl (cI, 402, .inl it2_1)), (a9, .inl (cZ, 3216, .inl iz)), (a10, .inl (cJ, 3216, .inr (.inl ou))), (a11, .inl (cI, 3216, .inl ba)), (a12, .inl (cJ, 3216, .inr (.inl de))), (a13, .inl (cJ, 161604, .inr (.inl bc))), (a14, .inl (cJ, 6, .inr (.inl su))), (a15, .inl (cJ, 6, .inr (.inl ke)))] := hD.sub [12, 13, 14, 0, 15, 1, 2, 3, 4, 16, 5, 6, 7, 8, 9, 10, 11] (by decide) ks_17_12_13_14_0_15_1_2_3_4_16_5_6_7_8_9_10_11
  obtain ⟨rfl, hw1⟩ := hw1
  have hw1 : bk2_1 ≤ 400 ∧ (pq_c (pm_br kd wd od cn ps) (cn + 1) ≤ 400 → bk2_1 = pq_c (pm_br kd wd od cn ps) (cn + 1) ∧ ∀ k, k < cn + 1 → pm_br kd wd od cn ps k → it2_1 (pq_c (pm_br kd wd od cn ps) k) = nI k) := hw1
  obtain ⟨hb9, hb8⟩ := hw1
  obtain ⟨hbE, hitE⟩ := hb8 hbk
  have hbk1 : 1 ≤ bk2_1 := by rw [hbE, pq_c_s (P := (pm_br kd wd od cn ps)) (show pm_br kd wd od cn ps cn from by unfold pm_br; rw [if_pos rfl]; trivial)]; omega
  have hitB : ∀ x, x < bk2_1 → it2_1 x = nI ((pq_p (pm_br kd wd od cn ps) (cn + 1)) x) := fun x hx => pq_hit hitE x (by rw [← hbE]; exact hx)
  have hbrB : ∀ x, x < bk2_1 → (pq_p (pm_br kd wd od cn ps) (cn + 1)) x ≤ cn := fun x hx => Nat.lt_succ_iff.mp (pq_p_spec (P := (pm_br kd wd od cn ps)) (cn + 1) x (by rw [← hbE]; exact hx)).2.1
  refine lv_istore_n (lv' := [(1, .int (kb_p (pq_c (pm_br kd wd od cn ps) (cn + 1) ≤ 400))), (0, .ref o)]) hx hb dd_M_tried_4 rfl hl (by decide) rfl (fun ls hl => ?_)
  refine lv_aload_n hx hb dd_M_tried_5 rfl (lv_at hl 1 rfl) ?_
  refine lv_iconst (v := nI 0) hx hb dd_M_tried_6 (by decide) ?_
  refine kx_calli (wr := []) (va_runV (C := rr_M) (As := [.int (nI 0)]) (rest := []) ⟨hx, hb, hml, hown, hts⟩ (ct_M_made l D cI cJ cZ H.size o th cn a0 a1 a2 a3 a4 a5 mn a6 a7 ps bk2_1 a8 a9 a10 a11 a12 a13 a14 a15 kf lb lc lo el ec eo eb ed mp ml md mo mb a16 a17 kd wd sr od sk ru me si it2_1 iz ou ba de bc su ke 0 (pq_p (pm_br kd wd od cn ps) (cn + 1)) og (by omega) (by omega) hbk1 hitB (fun x y hxy hy => pq_mono hxy (by rw [← hbE]; exact hy)) hbrB (by omega) (by omega) (by omega) (by omega) hOg) ⟨(callB_of 1 hts (kx_good kw_982) rfl rfl rfl (hts _ (kx_m kw_53)) (hts _ (kx_m kw_979)) (by decide +kernel) ⟨Nat.le_of_ble_eq_true rfl, Nat.le_of_ble_eq_true rfl⟩), (hts _ (kx_m kw_981)), (hts _ (kx_m kw_27))⟩ (kx_preV (ci := 0) (q0 := 0) hK hN (hP.sub [0, 1, 2, 3, 4, 5, 6, 7, 8, 9, 10, 11, 12, 13, 14, 15, 16] kt_17_0_1_2_3_4_5_6_7_8_9_10_11_12_13_14_15_16) (hD.sub [0, 1, 2, 3, 4, 5, 6, 7, 8, 9, 10, 11, 12, 13, 14, 15, 16] (by decide) ks_17_0_1_2_3_4_5_6_7_8_9_10_11_12_13_14_15_16) rfl kg_17_0) rfl rfl hl.1 rfl (lv_room (Nat.le_of_ble_eq_true rfl)) dd_M_tried_7 ⟨Nat.le_of_ble_eq_true rfl, Nat.le_of_ble_eq_true rfl⟩) hP hD hS hA [0, 1, 2, 3, 4, 5, 6, 7, 8, 9, 10, 11, 12, 13, 14, 15, 16] [] ks_17_0_1_2_3_4_5_6_7_8_9_10_11_12_13_14_15_16 ks_17_ (by decide) (by decide) (fun r7 u7 H locs hw7 hP hD hS => ?_)
  obtain ⟨iz2_7, ou2_7, ba2_7, de2_7, bc2_7, su2_7, ke2_7, kf2_7, lb2_7, lc2_7, lo2_7, el2_7, ec2_7, eo2_7, eb2_7, ed2_7⟩ := u7
  have hP : va_P D vwCl [(o, .inr (0, [.int (nI th), .int (nI cn), .ref a0, .ref a1, .ref a2, .ref a3, .ref a4, .ref a5, .int (nI mn), .ref a6, .ref a7, .int (nI ps), .int (nI bk2_1), .ref a8, .ref a9, .ref a10, .ref a11, .ref a12, .ref a13, .ref a14, .ref a15, .int (nI kf2_7), .int lb2_7, .int (nI lc2_7), .long lo2_7, .int (nI el2_7), .int (nI ec2_7), .long eo2_7, .int eb2_7, .long ed2_7, .int (nI mp), .int (nI ml), .long md, .long mo, .int mb, .ref a16, .ref a17])), (a0, .inl (cI, 4097, .inl kd)), (a1, .inl (cI, 4097, .inl wd)), (a2, .inl (cI, 4097, .inl sr)), (a3, .inl (cI, 4097, .inl od)), (a4, .inl (cI, 4097, .inl sk)), (a5, .inl (cI, 9, .inl ru)), (a6, .inl (cI, 258, .inl me)), (a7, .inl (cI, 8, .inl si)), (a8, .inl (cI, 402, .inl it2_1)), (a9, .inl (cZ, 3216, .inl iz2_7)), (a10, .inl (cJ, 3216, .inr (.inl ou2_7))), (a11, .inl (cI, 3216, .inl ba2_7)), (a12, .inl (cJ, 3216, .inr (.inl de2_7))), (a13, .inl (cJ, 161604, .inr (.inl bc2_7))), (a14, .inl (cJ, 6, .inr (.inl su2_7))), (a15, .inl (cJ, 6, .inr (.inl ke2_7)))] H := hP
  have hD : va_D A [(o, .inr (0, [.int (nI th), .int (nI cn), .ref a0, .ref a1, .ref a2, .ref a3, .ref a4, .ref a5, .int (nI mn), .ref a6, .ref a7, .int (nI ps), .int (nI bk2_1), .ref a8, .ref a9, .ref a10, .ref a11, .ref a12, .ref a13, .ref a14, .ref a15, .int (nI kf2_7), .int lb2_7, .int (nI lc2_7), .long lo2_7, .int (nI el2_7), .int (nI ec2_7), .long eo2_7, .int eb2_7, .long ed2_7, .int (nI mp), .int (nI ml), .long md, .long mo, .int mb, .ref a16, .ref a17])), (a0, .inl (cI, 4097, .inl kd)), (a1, .inl (cI, 4097, .inl wd)), (a2, .inl (cI, 4097, .inl sr)), (a3, .inl (cI, 4097, .inl od)), (a4, .inl (cI, 4097, .inl sk)), (a5, .inl (cI, 9, .inl ru)), (a6, .inl (cI, 258, .inl me)), (a7, .inl (cI, 8, .inl si)), (a8, .inl (cI, 402, .inl it2_1)), (a9, .inl (cZ, 3216, .inl iz2_7)), (a10, .inl (cJ, 3216, .inr (.inl ou2_7))), (a11, .inl (cI, 3216, .inl ba2_7)), (a12, .inl (cJ, 3216, .inr (.inl de2_7))), (a13, .inl (cJ, 161604, .inr (.inl bc2_7))), (a14, .inl (cJ, 6, .inr (.inl su2_7))), (a15, .inl (cJ, 6, .inr (.inl ke2_7)))] := hD
  obtain ⟨rfl, hw7⟩ := hw7
  have hw7 : (el2_7, ec2_7, eo2_7, eb2_7, ed2_7) = pg_E kd wd sr od sk ru me si cn mn ps (pq_p (pm_br kd wd od cn ps) (cn + 1)) bk2_1 0 (0, ec, eo, eb, ed) bk2_1 ∧ el2_7 ≤ 400 ∧ (∀ m9, 1 ≤ m9 → m9 ≤ bk2_1 → (0 = 0 ∨ m9 ≤ 0) → ∀ x, x < bk2_1 → ∀ c9, c9 < 4 → ∀ y, (pg_T kd wd sr od sk ru me si cn mn ps (pq_p (pm_br kd wd od cn ps) (cn + 1))) m9 x c9 = some y → pm_bk (bc2_7 (pm_pc x m9)) c9 = y.2.2.2) := hw7
  refine lv_if_ne (tgt := 15) hx hb dd_M_tried_10 (by decide) (fun c10 => ?_) (fun c10 => ?_)
  · skip
    have c10 : 0 < el2_7 := kb_1.mp c10
    obtain ⟨hE7, hl7, hk7⟩ := hw7
    have hN7 : el2_7 = (pg_E kd wd sr od sk ru me si cn mn ps (pq_p (pm_br kd wd od cn ps) (cn + 1)) bk2_1 0 (0, ec, eo, eb, ed) bk2_1).1 := congrArg Prod.fst hE7
    have hn0 : 1 ≤ el2_7 := c10
    have hway := pt_way (s0 := (0, ec, eo, eb, ed)) rfl hbk1 hN7.symm hn0
    refine lv_aload_n hx hb dd_M_tried_15 rfl (lv_at hl 1 rfl) ?_
    refine va_get (D := D) (ci := 0) (v := .int (nI el2_7)) (C := rr_M) (T := tt_M) (N := 37) hx hb hts hin0 hown hK hP 0 kg_17_0 rfl 25 (by decide) lk0 (fun _ h9 => h9) rfl dd_M_tried_16 ?_
    refine lv_istore_n (lv' := [(2, .int (nI el2_7)), (1, .int (kb_p (pq_c (pm_br kd wd od cn ps) (cn + 1) ≤ 400))), (0, .ref o)]) hx hb dd_M_tried_19 rfl hl (by decide) rfl (fun ls hl => ?_)
    refine lv_aload_n hx hb dd_M_tried_20 rfl (lv_at hl 2 rfl) ?_
    refine va_get (D := D) (ci := 0) (v := .ref a5) (C := rr_M) (T := tt_M) (N := 37) hx hb hts hin0 hown hK hP 0 kg_17_0 rfl 7 (by decide) lk2 (fun _ h9 => h9) rfl dd_M_tried_21 ?_
    refine lv_bipush (v := nI 8) hx hb dd_M_tried_24 (by decide) ?_
    refine kx_iald (q0 := 6) (t0 := 0) hx hb dd_M_tried_26 hK hP kg_17_6 rfl (by omega) (by omega) ?_
    refine lv_istore_n (lv' := [(3, .int (ru 8)), (2, .int (nI el2_7)), (1, .int (kb_p (pq_c (pm_br kd wd od cn ps) (cn + 1) ≤ 400))), (0, .ref o)]) hx hb dd_M_tried_27 rfl hl (by decide) rfl (fun ls hl => ?_)
    refine lv_iload_n hx hb dd_M_tried_28 rfl (lv_at hl 0 rfl) ?_
    refine lv_if_ne (tgt := 36) hx hb dd_M_tried_29 (by decide) (fun c29 => ?_) (fun c29 => ?_)
    · skip
      have hA0 := pt_add (n := el2_7) hl7 hq1 hq2
      have hS0 : pt_sr (pt_no (pg_T kd wd sr od sk ru me si cn mn ps (pq_p (pm_br kd wd od cn ps) (cn + 1))) bk2_1) bk2_1 el2_7 (ru 8).toInt (nI el2_7 + ru 8).toInt := by rw [hA0]; exact pt_sr0 (fun q => c29 (Int32.toInt_inj.mp q))
      refine lv_iconst (v := nI 0) hx hb dd_M_tried_36 (by decide) ?_
      refine lv_istore (lv' := [(4, .int (nI 0)), (3, .int (ru 8)), (2, .int (nI el2_7)), (1, .int (kb_p (pq_c (pm_br kd wd od cn ps) (cn + 1) ≤ 400))), (0, .ref o)]) hx hb dd_M_tried_37 hl (by decide) rfl (fun ls hl => ?_)
      refine lv_iload_n hx hb dd_M_tried_39 rfl (lv_at hl 2 rfl) ?_
      refine lv_iload_n hx hb dd_M_tried_40 rfl (lv_at hl 1 rfl) ?_
      refine lv_iadd hx hb dd_M_tried_41 ?_
      refine lv_istore (lv' := [(5, .int ((nI el2_7) + (ru 8))), (4, .int (nI 0)), (3, .int (ru 8)), (2, .int (nI el2_7)), (1, .int (kb_p (pq_c (pm_br kd wd od cn ps) (cn + 1) ≤ 400))), (0, .ref o)]) hx hb dd_M_tried_42 hl (by decide) rfl (fun ls hl => ?_)
      have lp44 : ∀ (N9_44 : Nat) (fd : Int32) (nv : Int32) (kf1 : Nat) (lb1 : Int32) (lc1 : Nat) (lo1 : Int64) (el1 : Nat) (ec1 : Nat) (eo1 : Int64) (eb1 : Int32) (ed1 : Int64) (iz1 : Nat → Int32) (ou1 : Nat → Int64) (ba1 : Nat → Int32) (de1 : Nat → Int64) (bc1 : Nat → Int64) (su1 : Nat → Int64) (ke1 : Nat → Int64), (if fd = nI 1 then 0 else (nv.toInt - el2_7).natAbs + 1) < N9_44 → (fd = nI 0 ∨ fd = nI 1) → (fd = nI 1 → pt_tr kd wd sr od sk ru me si cn mn ps (pq_p (pm_br kd wd od cn ps) (cn + 1)) bk2_1 el2_7 (ru 8).toInt (el1, ec1, eo1, eb1, ed1) bc1) → (fd = nI 0 → pt_sr (pt_no (pg_T kd wd sr od sk ru me si cn mn ps (pq_p (pm_br kd wd od cn ps) (cn + 1))) bk2_1) bk2_1 el2_7 (ru 8).toInt nv.toInt) → ∀ (H : Heap) (locs : List Loc), va_P D vwCl [(o, .inr (0, [.int (nI th), .int (nI cn), .ref a0, .ref a1, .ref a2, .ref a3, .ref a4, .ref a5, .int (nI mn), .ref a6, .ref a7, .int (nI ps), .int (nI bk2_1), .ref a8, .ref a9, .ref a10, .ref a11, .ref a12, .ref a13, .ref a14, .ref a15, .int (nI kf1), .int lb1, .int (nI lc1), .long lo1, .int (nI el1), .int (nI ec1), .long eo1, .int eb1, .long ed1, .int (nI mp), .int (nI ml), .long md, .long mo, .int mb, .ref a16, .ref a17])), (a0, .inl (cI, 4097, .inl kd)), (a1, .inl (cI, 4097, .inl wd)), (a2, .inl (cI, 4097, .inl sr)), (a3, .inl (cI, 4097, .inl od)), (a4, .inl (cI, 4097, .inl sk)), (a5, .inl (cI, 9, .inl ru)), (a6, .inl (cI, 258, .inl me)), (a7, .inl (cI, 8, .inl si)), (a8, .inl (cI, 402, .inl it2_1)), (a9, .inl (cZ, 3216, .inl iz1)), (a10, .inl (cJ, 3216, .inr (.inl ou1))), (a11, .inl (cI, 3216, .inl ba1)), (a12, .inl (cJ, 3216, .inr (.inl de1))), (a13, .inl (cJ, 161604, .inr (.inl bc1))), (a14, .inl (cJ, 6, .inr (.inl su1))), (a15, .inl (cJ, 6, .inr (.inl ke1)))] H → va_D A [(o, .inr (0, [.int (nI th), .int (nI cn), .ref a0, .ref a1, .ref a2, .ref a3, .ref a4, .ref a5, .int (nI mn), .ref a6, .ref a7, .int (nI ps), .int (nI bk2_1), .ref a8, .ref a9, .ref a10, .ref a11, .ref a12, .ref a13, .ref a14, .ref a15, .int (nI kf1), .int lb1, .int (nI lc1), .long lo1, .int (nI el1), .int (nI ec1), .long eo1, .int eb1, .long ed1, .int (nI mp), .int (nI ml), .long md, .long mo, .int mb, .ref a16, .ref a17])), (a0, .inl (cI, 4097, .inl kd)), (a1, .inl (cI, 4097, .inl wd)), (a2, .inl (cI, 4097, .inl sr)), (a3, .inl (cI, 4097, .inl od)), (a4, .inl (cI, 4097, .inl sk)), (a5, .inl (cI, 9, .inl ru)), (a6, .inl (cI, 258, .inl me)), (a7, .inl (cI, 8, .inl si)), (a8, .inl (cI, 402, .inl it2_1)), (a9, .inl (cZ, 3216, .inl iz1)), (a10, .inl (cJ, 3216, .inr (.inl ou1))), (a11, .inl (cI, 3216, .inl ba1)), (a12, .inl (cJ, 3216, .inr (.inl de1))), (a13, .inl (cJ, 161604, .inr (.inl bc1))), (a14, .inl (cJ, 6, .inr (.inl su1))), (a15, .inl (cJ, 6, .inr (.inl ke1)))] → va_S A s.heap H locs → ∀ (ls : Array Slot), lv_has ls 6 [(0, .ref o), (2, .int (nI el2_7)), (3, .int (ru 8)), (4, .int fd), (5, .int nv)] → W p l e (headSpec ww_M_tried { frames := 5, cells := 0, slots := 0, locals := 135 }).room s m ([.ref o] : List Value).toArray below meth c H locs 0 0 Q (F0 m 44 ls []) := by
        clear hP hD hS hl
        intro N9_44
        induction N9_44 with
        | zero => intro _ _ _ _ _ _ _ _ _ _ _ _ _ _ _ _ _ _ h9; exact absurd h9 (Nat.not_lt_zero _)
        | succ N9_44 ih_44 =>
          intro fd nv kf1 lb1 lc1 lo1 el1 ec1 eo1 eb1 ed1 iz1 ou1 ba1 de1 bc1 su1 ke1 hμ_44 hfd hF1 hF0 H locs hP hD hS ls hl
          refine lv_iload hx hb dd_M_tried_44 (lv_at hl 3 rfl) ?_
          refine lv_if_ne (tgt := 96) hx hb dd_M_tried_46 (by decide) (fun c46 => ?_) (fun c46 => ?_)
          · skip
            refine lv_iconst (v := nI 1) hx hb dd_M_tried_96 (by decide) ?_
            rw [hQ]
            exact kx_zret hx hb hr hlocks hK hN hS dd_M_tried_97 (by decide) (kf1, lb1, lc1, lo1, el1, ec1, eo1, eb1, ed1, iz1, ou1, ba1, de1, bc1, su1, ke1, bk2_1, it2_1) hP hD (by have hfd1 : fd = nI 1 := hfd.elim (fun h => absurd (h.trans nI_0) c46) (fun h => h); have hT9 := hF1 hfd1; rw [hbE] at hT9 hN7; rw [hN7] at hT9 hn0; exact ⟨kb_t hn0, hbE, fun x hx => hitB x (by rw [hbE]; exact hx), fun _ => hT9⟩)
          · skip
            have hfd0 : fd = nI 0 := c46
            have c46n : ¬ fd = nI 1 := by rw [hfd0]; decide
            have hsr := hF0 hfd0
            have hnB := pt_srB hsr hq1 hq2 hl7
            refine lv_iload hx hb dd_M_tried_49 (lv_at hl 4 rfl) ?_
            refine lv_if_le (tgt := 76) hx hb dd_M_tried_51 (by decide) (fun c51 => ?_) (fun c51 => ?_)
            · skip
              have hno : ∀ k : Nat, (k : Int) = nv.toInt → 1 ≤ k → k ≤ bk2_1 → (pt_no (pg_T kd wd sr od sk ru me si cn mn ps (pq_p (pm_br kd wd od cn ps) (cn + 1))) bk2_1) k := fun k e1 e2 _ => absurd c51 (by rw [Int32.le_iff_toInt_le, ← e1, show (0 : Int32).toInt = 0 from rfl]; omega)
              have hnvK : nv.toInt = nv.toInt := rfl
              refine lv_iconst (v := nI 0) hx hb dd_M_tried_76 (by decide) ?_
              refine lv_istore (lv' := [(4, .int (nI 0)), (0, .ref o), (2, .int (nI el2_7)), (3, .int (ru 8)), (5, .int nv)]) hx hb dd_M_tried_77 hl (by decide) rfl (fun ls hl => ?_)
              refine lv_iload hx hb dd_M_tried_79 (lv_at hl 4 rfl) ?_
              refine lv_iload_n hx hb dd_M_tried_81 rfl (lv_at hl 3 rfl) ?_
              refine lv_if_le (tgt := 89) hx hb dd_M_tried_82 (by decide) (fun c82 => ?_) (fun c82 => ?_)
              · skip
                have hq9 : ¬ 0 < (ru 8).toInt := by have h9 := c82; rw [Int32.le_iff_toInt_le, show (0 : Int32).toInt = 0 from rfl] at h9; omega
                have hup := pt_up1 (x := nv) (by omega)
                try have hS1 := pt_sr2 hsr hno hn0 hway.1 hway.2 hq9
                try rw [← hup] at hS1
                refine lv_iconst (v := nI 1) hx hb dd_M_tried_89 (by decide) ?_
                refine lv_iadd hx hb dd_M_tried_90 ?_
                refine lv_istore (lv' := [(5, .int (nv + (nI 1))), (4, .int (nI 0)), (0, .ref o), (2, .int (nI el2_7)), (3, .int (ru 8))]) hx hb dd_M_tried_91 hl (by decide) rfl (fun ls hl => ?_)
                refine lv_goto (tgt := 44) hx hb dd_M_tried_93 (by decide) ?_
                exact ih_44 (nI 0) (nv + (nI 1)) kf1 lb1 lc1 lo1 el1 ec1 eo1 eb1 ed1 iz1 ou1 ba1 de1 bc1 su1 ke1 (by first | (rw [if_neg c46n] at hμ_44; rw [if_neg (show ¬ nI 0 = nI 1 by decide)]; exact Nat.lt_of_lt_of_le (Nat.add_lt_add_right hS1.2 1) (Nat.le_of_lt_succ hμ_44)) | (rw [if_neg c46n] at hμ_44; rw [if_pos rfl]; exact Nat.lt_of_lt_of_le (Nat.succ_pos _) (Nat.le_of_lt_succ hμ_44))) (by first | exact Or.inl rfl | exact Or.inr rfl) (by first | exact fun q => absurd q (by decide) | exact fun _ => hT1) (by first | exact fun q => absurd q (by decide) | exact fun _ => hS1.1) H locs hP hD hS ls (lv_sub hl [2, 3, 4, 1, 0] rfl)
              · skip
                have hq9 : 0 < (ru 8).toInt := by have h9 := c82; rw [Int32.le_iff_toInt_le, show (0 : Int32).toInt = 0 from rfl] at h9; omega
                have hup := pt_dn1 (x := nv) (by omega)
                try have hS1 := pt_sr1 hsr hno hn0 hway.1 hway.2 hq9
                try rw [← hup] at hS1
                refine lv_iconst (v := (-1)) hx hb dd_M_tried_85 (by decide) ?_
                refine lv_goto (tgt := 90) hx hb dd_M_tried_86 (by decide) ?_
                refine lv_iadd hx hb dd_M_tried_90 ?_
                refine lv_istore (lv' := [(5, .int (nv + (-1))), (4, .int (nI 0)), (0, .ref o), (2, .int (nI el2_7)), (3, .int (ru 8))]) hx hb dd_M_tried_91 hl (by decide) rfl (fun ls hl => ?_)
                refine lv_goto (tgt := 44) hx hb dd_M_tried_93 (by decide) ?_
                exact ih_44 (nI 0) (nv + (-1)) kf1 lb1 lc1 lo1 el1 ec1 eo1 eb1 ed1 iz1 ou1 ba1 de1 bc1 su1 ke1 (by first | (rw [if_neg c46n] at hμ_44; rw [if_neg (show ¬ nI 0 = nI 1 by decide)]; exact Nat.lt_of_lt_of_le (Nat.add_lt_add_right hS1.2 1) (Nat.le_of_lt_succ hμ_44)) | (rw [if_neg c46n] at hμ_44; rw [if_pos rfl]; exact Nat.lt_of_lt_of_le (Nat.succ_pos _) (Nat.le_of_lt_succ hμ_44))) (by first | exact Or.inl rfl | exact Or.inr rfl) (by first | exact fun q => absurd q (by decide) | exact fun _ => hT1) (by first | exact fun q => absurd q (by decide) | exact fun _ => hS1.1) H locs hP hD hS ls (lv_sub hl [2, 3, 4, 1, 0] rfl)
            · skip
              obtain ⟨kn, hkn, ekn⟩ : ∃ j : Nat, j ≤ 20000 ∧ nv = nI j := by have h9 := c51; rw [Int32.le_iff_toInt_le, show (0 : Int32).toInt = 0 from rfl] at h9; exact ⟨nv.toInt.toNat, by omega, Int32.toInt_inj.mp (by rw [nI_toInt (by omega)]; omega)⟩
              have hkT : nv.toInt = kn := by rw [ekn, nI_toInt (by omega)]
              have hkn1 : 1 ≤ kn := by have h9 := c51; rw [Int32.le_iff_toInt_le, show (0 : Int32).toInt = 0 from rfl] at h9; omega
              refine lv_iload hx hb dd_M_tried_54 (lv_at hl 4 rfl) ?_
              refine kx_toN (n := kn) (ekn) ?_
              refine lv_aload_n hx hb dd_M_tried_56 rfl (lv_at hl 0 rfl) ?_
              refine va_get (D := D) (ci := 0) (v := .int (nI bk2_1)) (C := rr_M) (T := tt_M) (N := 37) hx hb hts hin0 hown hK hP 0 kg_17_0 rfl 12 (by decide) lk3 (fun _ h9 => h9) rfl dd_M_tried_57 ?_
              refine lv_icmp_gt (tgt := 76) hx hb dd_M_tried_60 (by decide) (fun c60 => ?_) (fun c60 => ?_)
              · skip
                have c60 : bk2_1 < kn := (nI_ltI (by omega) (by omega)).mp c60
                have hno : ∀ k : Nat, (k : Int) = nv.toInt → 1 ≤ k → k ≤ bk2_1 → (pt_no (pg_T kd wd sr od sk ru me si cn mn ps (pq_p (pm_br kd wd od cn ps) (cn + 1))) bk2_1) k := fun k e1 e2 e3 => absurd e3 (by omega)
                refine lv_iconst (v := nI 0) hx hb dd_M_tried_76 (by decide) ?_
                refine lv_istore (lv' := [(4, .int (nI 0)), (0, .ref o), (2, .int (nI el2_7)), (3, .int (ru 8)), (5, .int nv)]) hx hb dd_M_tried_77 hl (by decide) rfl (fun ls hl => ?_)
                refine lv_iload hx hb dd_M_tried_79 (lv_at hl 4 rfl) ?_
                refine lv_iload_n hx hb dd_M_tried_81 rfl (lv_at hl 3 rfl) ?_
                refine lv_if_le (tgt := 89) hx hb dd_M_tried_82 (by decide) (fun c82 => ?_) (fun c82 => ?_)
                · skip
                  have hq9 : ¬ 0 < (ru 8).toInt := by have h9 := c82; rw [Int32.le_iff_toInt_le, show (0 : Int32).toInt = 0 from rfl] at h9; omega
                  have hup := pt_up1 (x := nv) (by omega)
                  try have hS1 := pt_sr2 hsr hno hn0 hway.1 hway.2 hq9
                  try rw [← hup] at hS1
                  refine lv_iconst (v := nI 1) hx hb dd_M_tried_89 (by decide) ?_
                  refine lv_iadd hx hb dd_M_tried_90 ?_
                  refine lv_istore (lv' := [(5, .int (nv + (nI 1))), (4, .int (nI 0)), (0, .ref o), (2, .int (nI el2_7)), (3, .int (ru 8))]) hx hb dd_M_tried_91 hl (by decide) rfl (fun ls hl => ?_)
                  refine lv_goto (tgt := 44) hx hb dd_M_tried_93 (by decide) ?_
                  exact ih_44 (nI 0) (nv + (nI 1)) kf1 lb1 lc1 lo1 el1 ec1 eo1 eb1 ed1 iz1 ou1 ba1 de1 bc1 su1 ke1 (by first | (rw [if_neg c46n] at hμ_44; rw [if_neg (show ¬ nI 0 = nI 1 by decide)]; exact Nat.lt_of_lt_of_le (Nat.add_lt_add_right hS1.2 1) (Nat.le_of_lt_succ hμ_44)) | (rw [if_neg c46n] at hμ_44; rw [if_pos rfl]; exact Nat.lt_of_lt_of_le (Nat.succ_pos _) (Nat.le_of_lt_succ hμ_44))) (by first | exact Or.inl rfl | exact Or.inr rfl) (by first | exact fun q => absurd q (by decide) | exact fun _ => hT1) (by first | exact fun q => absurd q (by decide) | exact fun _ => hS1.1) H locs hP hD hS ls (lv_sub hl [2, 3, 4, 1, 0] rfl)
                · skip
                  have hq9 : 0 < (ru 8).toInt := by have h9 := c82; rw [Int32.le_iff_toInt_le, show (0 : Int32).toInt = 0 from rfl] at h9; omega
                  have hup := pt_dn1 (x := nv) (by omega)
                  try have hS1 := pt_sr1 hsr hno hn0 hway.1 hway.2 hq9
                  try rw [← hup] at hS1
                  refine lv_iconst (v := (-1)) hx hb dd_M_tried_85 (by decide) ?_
                  refine lv_goto (tgt := 90) hx hb dd_M_tried_86 (by decide) ?_
                  refine lv_iadd hx hb dd_M_tried_90 ?_
                  refine lv_istore (lv' := [(5, .int (nv + (-1))), (4, .int (nI 0)), (0, .ref o), (2, .int (nI el2_7)), (3, .int (ru 8))]) hx hb dd_M_tried_91 hl (by decide) rfl (fun ls hl => ?_)
                  refine lv_goto (tgt := 44) hx hb dd_M_tried_93 (by decide) ?_
                  exact ih_44 (nI 0) (nv + (-1)) kf1 lb1 lc1 lo1 el1 ec1 eo1 eb1 ed1 iz1 ou1 ba1 de1 bc1 su1 ke1 (by first | (rw [if_neg c46n] at hμ_44; rw [if_neg (show ¬ nI 0 = nI 1 by decide)]; exact Nat.lt_of_lt_of_le (Nat.add_lt_add_right hS1.2 1) (Nat.le_of_lt_succ hμ_44)) | (rw [if_neg c46n] at hμ_44; rw [if_pos rfl]; exact Nat.lt_of_lt_of_le (Nat.succ_pos _) (Nat.le_of_lt_succ hμ_44))) (by first | exact Or.inl rfl | exact Or.inr rfl) (by first | exact fun q => absurd q (by decide) | exact fun _ => hT1) (by first | exact fun q => absurd q (by decide) | exact fun _ => hS1.1) H locs hP hD hS ls (lv_sub hl [2, 3, 4, 1, 0] rfl)
              · skip
                have c60 : ¬ (bk2_1 < kn) := fun h => c60 ((nI_ltI (by omega) (by omega)).mpr h)
                refine lv_aload_n hx hb dd_M_tried_63 rfl (lv_at hl 0 rfl) ?_
                refine lv_iload hx hb dd_M_tried_64 (lv_at hl 4 rfl) ?_
                refine kx_toN (n := kn) (ekn) ?_
                refine kx_calli (wr := []) (va_runV (C := rr_M) (As := [.int (nI kn)]) (rest := []) ⟨hx, hb, hml, hown, hts⟩ (ct_M_made l D cI cJ cZ H.size o th cn a0 a1 a2 a3 a4 a5 mn a6 a7 ps bk2_1 a8 a9 a10 a11 a12 a13 a14 a15 kf1 lb1 lc1 lo1 el1 ec1 eo1 eb1 ed1 mp ml md mo mb a16 a17 kd wd sr od sk ru me si it2_1 iz1 ou1 ba1 de1 bc1 su1 ke1 kn (pq_p (pm_br kd wd od cn ps) (cn + 1)) og (by omega) (by omega) hbk1 hitB (fun x y hxy hy => pq_mono hxy (by rw [← hbE]; exact hy)) hbrB (by omega) (by omega) (by omega) (by omega) hOg) ⟨(callB_of 1 hts (kx_good kw_982) rfl rfl rfl (hts _ (kx_m kw_53)) (hts _ (kx_m kw_979)) (by decide +kernel) ⟨Nat.le_of_ble_eq_true rfl, Nat.le_of_ble_eq_true rfl⟩), (hts _ (kx_m kw_981)), (hts _ (kx_m kw_27))⟩ (kx_preV (ci := 0) (q0 := 0) hK hN (hP.sub [0, 1, 2, 3, 4, 5, 6, 7, 8, 9, 10, 11, 12, 13, 14, 15, 16] kt_17_0_1_2_3_4_5_6_7_8_9_10_11_12_13_14_15_16) (hD.sub [0, 1, 2, 3, 4, 5, 6, 7, 8, 9, 10, 11, 12, 13, 14, 15, 16] (by decide) ks_17_0_1_2_3_4_5_6_7_8_9_10_11_12_13_14_15_16) rfl kg_17_0) rfl rfl hl.1 rfl (lv_room (Nat.le_of_ble_eq_true rfl)) dd_M_tried_66 ⟨Nat.le_of_ble_eq_true rfl, Nat.le_of_ble_eq_true rfl⟩) hP hD hS hA [0, 1, 2, 3, 4, 5, 6, 7, 8, 9, 10, 11, 12, 13, 14, 15, 16] [] ks_17_0_1_2_3_4_5_6_7_8_9_10_11_12_13_14_15_16 ks_17_ (by decide) (by decide) (fun r66 u66 H locs hw66 hP hD hS => ?_)
                obtain ⟨iz2_66, ou2_66, ba2_66, de2_66, bc2_66, su2_66, ke2_66, kf2_66, lb2_66, lc2_66, lo2_66, el2_66, ec2_66, eo2_66, eb2_66, ed2_66⟩ := u66
                have hP : va_P D vwCl [(o, .inr (0, [.int (nI th), .int (nI cn), .ref a0, .ref a1, .ref a2, .ref a3, .ref a4, .ref a5, .int (nI mn), .ref a6, .ref a7, .int (nI ps), .int (nI bk2_1), .ref a8, .ref a9, .ref a10, .ref a11, .ref a12, .ref a13, .ref a14, .ref a15, .int (nI kf2_66), .int lb2_66, .int (nI lc2_66), .long lo2_66, .int (nI el2_66), .int (nI ec2_66), .long eo2_66, .int eb2_66, .long ed2_66, .int (nI mp), .int (nI ml), .long md, .long mo, .int mb, .ref a16, .ref a17])), (a0, .inl (cI, 4097, .inl kd)), (a1, .inl (cI, 4097, .inl wd)), (a2, .inl (cI, 4097, .inl sr)), (a3, .inl (cI, 4097, .inl od)), (a4, .inl (cI, 4097, .inl sk)), (a5, .inl (cI, 9, .inl ru)), (a6, .inl (cI, 258, .inl me)), (a7, .inl (cI, 8, .inl si)), (a8, .inl (cI, 402, .inl it2_1)), (a9, .inl (cZ, 3216, .inl iz2_66)), (a10, .inl (cJ, 3216, .inr (.inl ou2_66))), (a11, .inl (cI, 3216, .inl ba2_66)), (a12, .inl (cJ, 3216, .inr (.inl de2_66))), (a13, .inl (cJ, 161604, .inr (.inl bc2_66))), (a14, .inl (cJ, 6, .inr (.inl su2_66))), (a15, .inl (cJ, 6, .inr (.inl ke2_66)))] H := hP
                have hD : va_D A [(o, .inr (0, [.int (nI th), .int (nI cn), .ref a0, .ref a1, .ref a2, .ref a3, .ref a4, .ref a5, .int (nI mn), .ref a6, .ref a7, .int (nI ps), .int (nI bk2_1), .ref a8, .ref a9, .ref a10, .ref a11, .ref a12, .ref a13, .ref a14, .ref a15, .int (nI kf2_66), .int lb2_66, .int (nI lc2_66), .long lo2_66, .int (nI el2_66), .int (nI ec2_66), .long eo2_66, .int eb2_66, .long ed2_66, .int (nI mp), .int (nI ml), .long md, .long mo, .int mb, .ref a16, .ref a17])), (a0, .inl (cI, 4097, .inl kd)), (a1, .inl (cI, 4097, .inl wd)), (a2, .inl (cI, 4097, .inl sr)), (a3, .inl (cI, 4097, .inl od)), (a4, .inl (cI, 4097, .inl sk)), (a5, .inl (cI, 9, .inl ru)), (a6, .inl (cI, 258, .inl me)), (a7, .inl (cI, 8, .inl si)), (a8, .inl (cI, 402, .inl it2_1)), (a9, .inl (cZ, 3216, .inl iz2_66)), (a10, .inl (cJ, 3216, .inr (.inl ou2_66))), (a11, .inl (cI, 3216, .inl ba2_66)), (a12, .inl (cJ, 3216, .inr (.inl de2_66))), (a13, .inl (cJ, 161604, .inr (.inl bc2_66))), (a14, .inl (cJ, 6, .inr (.inl su2_66))), (a15, .inl (cJ, 6, .inr (.inl ke2_66)))] := hD
                obtain ⟨rfl, hw66⟩ := hw66
                have hw66 : (el2_66, ec2_66, eo2_66, eb2_66, ed2_66) = pg_E kd wd sr od sk ru me si cn mn ps (pq_p (pm_br kd wd od cn ps) (cn + 1)) bk2_1 kn (0, ec1, eo1, eb1, ed1) bk2_1 ∧ el2_66 ≤ 400 ∧ (∀ m9, 1 ≤ m9 → m9 ≤ bk2_1 → (kn = 0 ∨ m9 ≤ kn) → ∀ x, x < bk2_1 → ∀ c9, c9 < 4 → ∀ y, (pg_T kd wd sr od sk ru me si cn mn ps (pq_p (pm_br kd wd od cn ps) (cn + 1))) m9 x c9 = some y → pm_bk (bc2_66 (pm_pc x m9)) c9 = y.2.2.2) := hw66
                refine lv_if_eq (tgt := 76) hx hb dd_M_tried_69 (by decide) (fun c69 => ?_) (fun c69 => ?_)
                · skip
                  have c69 : ¬ (0 < el2_66) := kb_0.mp c69
                  obtain ⟨hE66, hl66, hk66⟩ := hw66
                  have hN66 := congrArg Prod.fst hE66
                  have hno : ∀ k : Nat, (k : Int) = nv.toInt → 1 ≤ k → k ≤ bk2_1 → (pt_no (pg_T kd wd sr od sk ru me si cn mn ps (pq_p (pm_br kd wd od cn ps) (cn + 1))) bk2_1) k := fun k e1 e2 e3 => by have e9 : k = kn := (by omega); subst e9; exact pt_none (s0 := (0, ec1, eo1, eb1, ed1)) rfl e2 e3 (by rw [← hN66]; exact c69)
                  refine lv_iconst (v := nI 0) hx hb dd_M_tried_76 (by decide) ?_
                  refine lv_istore (lv' := [(4, .int (nI 0)), (0, .ref o), (2, .int (nI el2_7)), (3, .int (ru 8)), (5, .int nv)]) hx hb dd_M_tried_77 hl (by decide) rfl (fun ls hl => ?_)
                  refine lv_iload hx hb dd_M_tried_79 (lv_at hl 4 rfl) ?_
                  refine lv_iload_n hx hb dd_M_tried_81 rfl (lv_at hl 3 rfl) ?_
                  refine lv_if_le (tgt := 89) hx hb dd_M_tried_82 (by decide) (fun c82 => ?_) (fun c82 => ?_)
                  · skip
                    have hq9 : ¬ 0 < (ru 8).toInt := by have h9 := c82; rw [Int32.le_iff_toInt_le, show (0 : Int32).toInt = 0 from rfl] at h9; omega
                    have hup := pt_up1 (x := nv) (by omega)
                    try have hS1 := pt_sr2 hsr hno hn0 hway.1 hway.2 hq9
                    try rw [← hup] at hS1
                    refine lv_iconst (v := nI 1) hx hb dd_M_tried_89 (by decide) ?_
                    refine lv_iadd hx hb dd_M_tried_90 ?_
                    refine lv_istore (lv' := [(5, .int (nv + (nI 1))), (4, .int (nI 0)), (0, .ref o), (2, .int (nI el2_7)), (3, .int (ru 8))]) hx hb dd_M_tried_91 hl (by decide) rfl (fun ls hl => ?_)
                    refine lv_goto (tgt := 44) hx hb dd_M_tried_93 (by decide) ?_
                    exact ih_44 (nI 0) (nv + (nI 1)) kf2_66 lb2_66 lc2_66 lo2_66 el2_66 ec2_66 eo2_66 eb2_66 ed2_66 iz2_66 ou2_66 ba2_66 de2_66 bc2_66 su2_66 ke2_66 (by first | (rw [if_neg c46n] at hμ_44; rw [if_neg (show ¬ nI 0 = nI 1 by decide)]; exact Nat.lt_of_lt_of_le (Nat.add_lt_add_right hS1.2 1) (Nat.le_of_lt_succ hμ_44)) | (rw [if_neg c46n] at hμ_44; rw [if_pos rfl]; exact Nat.lt_of_lt_of_le (Nat.succ_pos _) (Nat.le_of_lt_succ hμ_44))) (by first | exact Or.inl rfl | exact Or.inr rfl) (by first | exact fun q => absurd q (by decide) | exact fun _ => hT1) (by first | exact fun q => absurd q (by decide) | exact fun _ => hS1.1) H locs hP hD hS ls (lv_sub hl [2, 3, 4, 1, 0] rfl)
                  · skip
                    have hq9 : 0 < (ru 8).toInt := by have h9 := c82; rw [Int32.le_iff_toInt_le, show (0 : Int32).toInt = 0 from rfl] at h9; omega
                    have hup := pt_dn1 (x := nv) (by omega)
                    try have hS1 := pt_sr1 hsr hno hn0 hway.1 hway.2 hq9
                    try rw [← hup] at hS1
                    refine lv_iconst (v := (-1)) hx hb dd_M_tried_85 (by decide) ?_
                    refine lv_goto (tgt := 90) hx hb dd_M_tried_86 (by decide) ?_
                    refine lv_iadd hx hb dd_M_tried_90 ?_
                    refine lv_istore (lv' := [(5, .int (nv + (-1))), (4, .int (nI 0)), (0, .ref o), (2, .int (nI el2_7)), (3, .int (ru 8))]) hx hb dd_M_tried_91 hl (by decide) rfl (fun ls hl => ?_)
                    refine lv_goto (tgt := 44) hx hb dd_M_tried_93 (by decide) ?_
                    exact ih_44 (nI 0) (nv + (-1)) kf2_66 lb2_66 lc2_66 lo2_66 el2_66 ec2_66 eo2_66 eb2_66 ed2_66 iz2_66 ou2_66 ba2_66 de2_66 bc2_66 su2_66 ke2_66 (by first | (rw [if_neg c46n] at hμ_44; rw [if_neg (show ¬ nI 0 = nI 1 by decide)]; exact Nat.lt_of_lt_of_le (Nat.add_lt_add_right hS1.2 1) (Nat.le_of_lt_succ hμ_44)) | (rw [if_neg c46n] at hμ_44; rw [if_pos rfl]; exact Nat.lt_of_lt_of_le (Nat.succ_pos _) (Nat.le_of_lt_succ hμ_44))) (by first | exact Or.inl rfl | exact Or.inr rfl) (by first | exact fun q => absurd q (by decide) | exact fun _ => hT1) (by first | exact fun q => absurd q (by decide) | exact fun _ => hS1.1) H locs hP hD hS ls (lv_sub hl [2, 3, 4, 1, 0] rfl)
                · skip
                  have c69 : 0 < el2_66 := kb_1.mp c69
                  obtain ⟨hE66, hl66, hk66⟩ := hw66
                  have hN66 := congrArg Prod.fst hE66
                  have hT1 : pt_tr kd wd sr od sk ru me si cn mn ps (pq_p (pm_br kd wd od cn ps) (cn + 1)) bk2_1 el2_7 (ru 8).toInt (el2_66, ec2_66, eo2_66, eb2_66, ed2_66) bc2_66 := ⟨kn, (0, ec1, eo1, eb1, ed1), rfl, hE66, c69, hk66, Or.inr ⟨hkn1, by omega, hN66.trans (pt_some (s0 := (0, ec1, eo1, eb1, ed1)) rfl hkn1 (by omega) (by rw [← hN66]; exact c69)), by rw [← hkT]; exact hsr⟩⟩
                  refine lv_iconst (v := nI 1) hx hb dd_M_tried_72 (by decide) ?_
                  refine lv_goto (tgt := 77) hx hb dd_M_tried_73 (by decide) ?_
                  refine lv_istore (lv' := [(4, .int (nI 1)), (0, .ref o), (2, .int (nI el2_7)), (3, .int (ru 8)), (5, .int nv)]) hx hb dd_M_tried_77 hl (by decide) rfl (fun ls hl => ?_)
                  refine lv_iload hx hb dd_M_tried_79 (lv_at hl 4 rfl) ?_
                  refine lv_iload_n hx hb dd_M_tried_81 rfl (lv_at hl 3 rfl) ?_
                  refine lv_if_le (tgt := 89) hx hb dd_M_tried_82 (by decide) (fun c82 => ?_) (fun c82 => ?_)
                  · skip
                    have hq9 : ¬ 0 < (ru 8).toInt := by have h9 := c82; rw [Int32.le_iff_toInt_le, show (0 : Int32).toInt = 0 from rfl] at h9; omega
                    have hup := pt_up1 (x := nv) (by omega)
                    try have hS1 := pt_sr2 hsr hno hn0 hway.1 hway.2 hq9
                    try rw [← hup] at hS1
                    refine lv_iconst (v := nI 1) hx hb dd_M_tried_89 (by decide) ?_
                    refine lv_iadd hx hb dd_M_tried_90 ?_
                    refine lv_istore (lv' := [(5, .int (nv + (nI 1))), (4, .int (nI 1)), (0, .ref o), (2, .int (nI el2_7)), (3, .int (ru 8))]) hx hb dd_M_tried_91 hl (by decide) rfl (fun ls hl => ?_)
                    refine lv_goto (tgt := 44) hx hb dd_M_tried_93 (by decide) ?_
                    exact ih_44 (nI 1) (nv + (nI 1)) kf2_66 lb2_66 lc2_66 lo2_66 el2_66 ec2_66 eo2_66 eb2_66 ed2_66 iz2_66 ou2_66 ba2_66 de2_66 bc2_66 su2_66 ke2_66 (by first | (rw [if_neg c46n] at hμ_44; rw [if_neg (show ¬ nI 0 = nI 1 by decide)]; exact Nat.lt_of_lt_of_le (Nat.add_lt_add_right hS1.2 1) (Nat.le_of_lt_succ hμ_44)) | (rw [if_neg c46n] at hμ_44; rw [if_pos rfl]; exact Nat.lt_of_lt_of_le (Nat.succ_pos _) (Nat.le_of_lt_succ hμ_44))) (by first | exact Or.inl rfl | exact Or.inr rfl) (by first | exact fun q => absurd q (by decide) | exact fun _ => hT1) (by first | exact fun q => absurd q (by decide) | exact fun _ => hS1.1) H locs hP hD hS ls (lv_sub hl [2, 3, 4, 1, 0] rfl)
                  · skip
                    have hq9 : 0 < (ru 8).toInt := by have h9 := c82; rw [Int32.le_iff_toInt_le, show (0 : Int32).toInt = 0 from rfl] at h9; omega
                    have hup := pt_dn1 (x := nv) (by omega)
                    try have hS1 := pt_sr1 hsr hno hn0 hway.1 hway.2 hq9
                    try rw [← hup] at hS1
                    refine lv_iconst (v := (-1)) hx hb dd_M_tried_85 (by decide) ?_
                    refine lv_goto (tgt := 90) hx hb dd_M_tried_86 (by decide) ?_
                    refine lv_iadd hx hb dd_M_tried_90 ?_
                    refine lv_istore (lv' := [(5, .int (nv + (-1))), (4, .int (nI 1)), (0, .ref o), (2, .int (nI el2_7)), (3, .int (ru 8))]) hx hb dd_M_tried_91 hl (by decide) rfl (fun ls hl => ?_)
                    refine lv_goto (tgt := 44) hx hb dd_M_tried_93 (by decide) ?_
                    exact ih_44 (nI 1) (nv + (-1)) kf2_66 lb2_66 lc2_66 lo2_66 el2_66 ec2_66 eo2_66 eb2_66 ed2_66 iz2_66 ou2_66 ba2_66 de2_66 bc2_66 su2_66 ke2_66 (by first | (rw [if_neg c46n] at hμ_44; rw [if_neg (show ¬ nI 0 = nI 1 by decide)]; exact Nat.lt_of_lt_of_le (Nat.add_lt_add_right hS1.2 1) (Nat.le_of_lt_succ hμ_44)) | (rw [if_neg c46n] at hμ_44; rw [if_pos rfl]; exact Nat.lt_of_lt_of_le (Nat.succ_pos _) (Nat.le_of_lt_succ hμ_44))) (by first | exact Or.inl rfl | exact Or.inr rfl) (by first | exact fun q => absurd q (by decide) | exact fun _ => hT1) (by first | exact fun q => absurd q (by decide) | exact fun _ => hS1.1) H locs hP hD hS ls (lv_sub hl [2, 3, 4, 1, 0] rfl)
      exact lp44 ((if (nI 0) = nI 1 then 0 else (((nI el2_7) + (ru 8)).toInt - el2_7).natAbs + 1) + 1) (nI 0) ((nI el2_7) + (ru 8)) kf2_7 lb2_7 lc2_7 lo2_7 el2_7 ec2_7 eo2_7 eb2_7 ed2_7 iz2_7 ou2_7 ba2_7 de2_7 bc2_7 su2_7 ke2_7 (Nat.lt_succ_self _) (by first | exact Or.inl rfl | exact Or.inr rfl) (by first | exact fun q => absurd q (by decide) | exact fun _ => hT0) (by first | exact fun q => absurd q (by decide) | exact fun _ => hS0) H locs hP hD hS ls (lv_sub hl [5, 3, 2, 1, 0] rfl)
    · skip
      have hT0 : pt_tr kd wd sr od sk ru me si cn mn ps (pq_p (pm_br kd wd od cn ps) (cn + 1)) bk2_1 el2_7 (ru 8).toInt (el2_7, ec2_7, eo2_7, eb2_7, ed2_7) bc2_7 := ⟨0, (0, ec, eo, eb, ed), rfl, hE7, hn0, hk7, Or.inl ⟨by rw [c29]; rfl, rfl, rfl⟩⟩
      have hA0 := pt_add (n := el2_7) hl7 hq1 hq2
      refine lv_iconst (v := nI 1) hx hb dd_M_tried_32 (by decide) ?_
      refine lv_goto (tgt := 37) hx hb dd_M_tried_33 (by decide) ?_
      refine lv_istore (lv' := [(4, .int (nI 1)), (3, .int (ru 8)), (2, .int (nI el2_7)), (1, .int (kb_p (pq_c (pm_br kd wd od cn ps) (cn + 1) ≤ 400))), (0, .ref o)]) hx hb dd_M_tried_37 hl (by decide) rfl (fun ls hl => ?_)
      refine lv_iload_n hx hb dd_M_tried_39 rfl (lv_at hl 2 rfl) ?_
      refine lv_iload_n hx hb dd_M_tried_40 rfl (lv_at hl 1 rfl) ?_
      refine lv_iadd hx hb dd_M_tried_41 ?_
      refine lv_istore (lv' := [(5, .int ((nI el2_7) + (ru 8))), (4, .int (nI 1)), (3, .int (ru 8)), (2, .int (nI el2_7)), (1, .int (kb_p (pq_c (pm_br kd wd od cn ps) (cn + 1) ≤ 400))), (0, .ref o)]) hx hb dd_M_tried_42 hl (by decide) rfl (fun ls hl => ?_)
      have lp44 : ∀ (N9_44 : Nat) (fd : Int32) (nv : Int32) (kf1 : Nat) (lb1 : Int32) (lc1 : Nat) (lo1 : Int64) (el1 : Nat) (ec1 : Nat) (eo1 : Int64) (eb1 : Int32) (ed1 : Int64) (iz1 : Nat → Int32) (ou1 : Nat → Int64) (ba1 : Nat → Int32) (de1 : Nat → Int64) (bc1 : Nat → Int64) (su1 : Nat → Int64) (ke1 : Nat → Int64), (if fd = nI 1 then 0 else (nv.toInt - el2_7).natAbs + 1) < N9_44 → (fd = nI 0 ∨ fd = nI 1) → (fd = nI 1 → pt_tr kd wd sr od sk ru me si cn mn ps (pq_p (pm_br kd wd od cn ps) (cn + 1)) bk2_1 el2_7 (ru 8).toInt (el1, ec1, eo1, eb1, ed1) bc1) → (fd = nI 0 → pt_sr (pt_no (pg_T kd wd sr od sk ru me si cn mn ps (pq_p (pm_br kd wd od cn ps) (cn + 1))) bk2_1) bk2_1 el2_7 (ru 8).toInt nv.toInt) → ∀ (H : Heap) (locs : List Loc), va_P D vwCl [(o, .inr (0, [.int (nI th), .int (nI cn), .ref a0, .ref a1, .ref a2, .ref a3, .ref a4, .ref a5, .int (nI mn), .ref a6, .ref a7, .int (nI ps), .int (nI bk2_1), .ref a8, .ref a9, .ref a10, .ref a11, .ref a12, .ref a13, .ref a14, .ref a15, .int (nI kf1), .int lb1, .int (nI lc1), .long lo1, .int (nI el1), .int (nI ec1), .long eo1, .int eb1, .long ed1, .int (nI mp), .int (nI ml), .long md, .long mo, .int mb, .ref a16, .ref a17])), (a0, .inl (cI, 4097, .inl kd)), (a1, .inl (cI, 4097, .inl wd)), (a2, .inl (cI, 4097, .inl sr)), (a3, .inl (cI, 4097, .inl od)), (a4, .inl (cI, 4097, .inl sk)), (a5, .inl (cI, 9, .inl ru)), (a6, .inl (cI, 258, .inl me)), (a7, .inl (cI, 8, .inl si)), (a8, .inl (cI, 402, .inl it2_1)), (a9, .inl (cZ, 3216, .inl iz1)), (a10, .inl (cJ, 3216, .inr (.inl ou1))), (a11, .inl (cI, 3216, .inl ba1)), (a12, .inl (cJ, 3216, .inr (.inl de1))), (a13, .inl (cJ, 161604, .inr (.inl bc1))), (a14, .inl (cJ, 6, .inr (.inl su1))), (a15, .inl (cJ, 6, .inr (.inl ke1)))] H → va_D A [(o, .inr (0, [.int (nI th), .int (nI cn), .ref a0, .ref a1, .ref a2, .ref a3, .ref a4, .ref a5, .int (nI mn), .ref a6, .ref a7, .int (nI ps), .int (nI bk2_1), .ref a8, .ref a9, .ref a10, .ref a11, .ref a12, .ref a13, .ref a14, .ref a15, .int (nI kf1), .int lb1, .int (nI lc1), .long lo1, .int (nI el1), .int (nI ec1), .long eo1, .int eb1, .long ed1, .int (nI mp), .int (nI ml), .long md, .long mo, .int mb, .ref a16, .ref a17])), (a0, .inl (cI, 4097, .inl kd)), (a1, .inl (cI, 4097, .inl wd)), (a2, .inl (cI, 4097, .inl sr)), (a3, .inl (cI, 4097, .inl od)), (a4, .inl (cI, 4097, .inl sk)), (a5, .inl (cI, 9, .inl ru)), (a6, .inl (cI, 258, .inl me)), (a7, .inl (cI, 8, .inl si)), (a8, .inl (cI, 402, .inl it2_1)), (a9, .inl (cZ, 3216, .inl iz1)), (a10, .inl (cJ, 3216, .inr (.inl ou1))), (a11, .inl (cI, 3216, .inl ba1)), (a12, .inl (cJ, 3216, .inr (.inl de1))), (a13, .inl (cJ, 161604, .inr (.inl bc1))), (a14, .inl (cJ, 6, .inr (.inl su1))), (a15, .inl (cJ, 6, .inr (.inl ke1)))] → va_S A s.heap H locs → ∀ (ls : Array Slot), lv_has ls 6 [(0, .ref o), (2, .int (nI el2_7)), (3, .int (ru 8)), (4, .int fd), (5, .int nv)] → W p l e (headSpec ww_M_tried { frames := 5, cells := 0, slots := 0, locals := 135 }).room s m ([.ref o] : List Value).toArray below meth c H locs 0 0 Q (F0 m 44 ls []) := by
        clear hP hD hS hl
        intro N9_44
        induction N9_44 with
        | zero => intro _ _ _ _ _ _ _ _ _ _ _ _ _ _ _ _ _ _ h9; exact absurd h9 (Nat.not_lt_zero _)
        | succ N9_44 ih_44 =>
          intro fd nv kf1 lb1 lc1 lo1 el1 ec1 eo1 eb1 ed1 iz1 ou1 ba1 de1 bc1 su1 ke1 hμ_44 hfd hF1 hF0 H locs hP hD hS ls hl
          refine lv_iload hx hb dd_M_tried_44 (lv_at hl 3 rfl) ?_
          refine lv_if_ne (tgt := 96) hx hb dd_M_tried_46 (by decide) (fun c46 => ?_) (fun c46 => ?_)
          · skip
            refine lv_iconst (v := nI 1) hx hb dd_M_tried_96 (by decide) ?_
            rw [hQ]
            exact kx_zret hx hb hr hlocks hK hN hS dd_M_tried_97 (by decide) (kf1, lb1, lc1, lo1, el1, ec1, eo1, eb1, ed1, iz1, ou1, ba1, de1, bc1, su1, ke1, bk2_1, it2_1) hP hD (by have hfd1 : fd = nI 1 := hfd.elim (fun h => absurd (h.trans nI_0) c46) (fun h => h); have hT9 := hF1 hfd1; rw [hbE] at hT9 hN7; rw [hN7] at hT9 hn0; exact ⟨kb_t hn0, hbE, fun x hx => hitB x (by rw [hbE]; exact hx), fun _ => hT9⟩)
          · skip
            have hfd0 : fd = nI 0 := c46
            have c46n : ¬ fd = nI 1 := by rw [hfd0]; decide
            have hsr := hF0 hfd0
            have hnB := pt_srB hsr hq1 hq2 hl7
            refine lv_iload hx hb dd_M_tried_49 (lv_at hl 4 rfl) ?_
            refine lv_if_le (tgt := 76) hx hb dd_M_tried_51 (by decide) (fun c51 => ?_) (fun c51 => ?_)
            · skip
              have hno : ∀ k : Nat, (k : Int) = nv.toInt → 1 ≤ k → k ≤ bk2_1 → (pt_no (pg_T kd wd sr od sk ru me si cn mn ps (pq_p (pm_br kd wd od cn ps) (cn + 1))) bk2_1) k := fun k e1 e2 _ => absurd c51 (by rw [Int32.le_iff_toInt_le, ← e1, show (0 : Int32).toInt = 0 from rfl]; omega)
              have hnvK : nv.toInt = nv.toInt := rfl
              refine lv_iconst (v := nI 0) hx hb dd_M_tried_76 (by decide) ?_
              refine lv_istore (lv' := [(4, .int (nI 0)), (0, .ref o), (2, .int (nI el2_7)), (3, .int (ru 8)), (5, .int nv)]) hx hb dd_M_tried_77 hl (by decide) rfl (fun ls hl => ?_)
              refine lv_iload hx hb dd_M_tried_79 (lv_at hl 4 rfl) ?_
              refine lv_iload_n hx hb dd_M_tried_81 rfl (lv_at hl 3 rfl) ?_
              refine lv_if_le (tgt := 89) hx hb dd_M_tried_82 (by decide) (fun c82 => ?_) (fun c82 => ?_)
              · skip
                have hq9 : ¬ 0 < (ru 8).toInt := by have h9 := c82; rw [Int32.le_iff_toInt_le, show (0 : Int32).toInt = 0 from rfl] at h9; omega
                have hup := pt_up1 (x := nv) (by omega)
                try have hS1 := pt_sr2 hsr hno hn0 hway.1 hway.2 hq9
                try rw [← hup] at hS1
                refine lv_iconst (v := nI 1) hx hb dd_M_tried_89 (by decide) ?_
                refine lv_iadd hx hb dd_M_tried_90 ?_
                refine lv_istore (lv' := [(5, .int (nv + (nI 1))), (4, .int (nI 0)), (0, .ref o), (2, .int (nI el2_7)), (3, .int (ru 8))]) hx hb dd_M_tried_91 hl (by decide) rfl (fun ls hl => ?_)
                refine lv_goto (tgt := 44) hx hb dd_M_tried_93 (by decide) ?_
                exact ih_44 (nI 0) (nv + (nI 1)) kf1 lb1 lc1 lo1 el1 ec1 eo1 eb1 ed1 iz1 ou1 ba1 de1 bc1 su1 ke1 (by first | (rw [if_neg c46n] at hμ_44; rw [if_neg (show ¬ nI 0 = nI 1 by decide)]; exact Nat.lt_of_lt_of_le (Nat.add_lt_add_right hS1.2 1) (Nat.le_of_lt_succ hμ_44)) | (rw [if_neg c46n] at hμ_44; rw [if_pos rfl]; exact Nat.lt_of_lt_of_le (Nat.succ_pos _) (Nat.le_of_lt_succ hμ_44))) (by first | exact Or.inl rfl | exact Or.inr rfl) (by first | exact fun q => absurd q (by decide) | exact fun _ => hT1) (by first | exact fun q => absurd q (by decide) | exact fun _ => hS1.1) H locs hP hD hS ls (lv_sub hl [2, 3, 4, 1, 0] rfl)
              · skip
                have hq9 : 0 < (ru 8).toInt := by have h9 := c82; rw [Int32.le_iff_toInt_le, show (0 : Int32).toInt = 0 from rfl] at h9; omega
                have hup := pt_dn1 (x := nv) (by omega)
                try have hS1 := pt_sr1 hsr hno hn0 hway.1 hway.2 hq9
                try rw [← hup] at hS1
                refine lv_iconst (v := (-1)) hx hb dd_M_tried_85 (by decide) ?_
                refine lv_goto (tgt := 90) hx hb dd_M_tried_86 (by decide) ?_
                refine lv_iadd hx hb dd_M_tried_90 ?_
                refine lv_istore (lv' := [(5, .int (nv + (-1))), (4, .int (nI 0)), (0, .ref o), (2, .int (nI el2_7)), (3, .int (ru 8))]) hx hb dd_M_tried_91 hl (by decide) rfl (fun ls hl => ?_)
                refine lv_goto (tgt := 44) hx hb dd_M_tried_93 (by decide) ?_
                exact ih_44 (nI 0) (nv + (-1)) kf1 lb1 lc1 lo1 el1 ec1 eo1 eb1 ed1 iz1 ou1 ba1 de1 bc1 su1 ke1 (by first | (rw [if_neg c46n] at hμ_44; rw [if_neg (show ¬ nI 0 = nI 1 by decide)]; exact Nat.lt_of_lt_of_le (Nat.add_lt_add_right hS1.2 1) (Nat.le_of_lt_succ hμ_44)) | (rw [if_neg c46n] at hμ_44; rw [if_pos rfl]; exact Nat.lt_of_lt_of_le (Nat.succ_pos _) (Nat.le_of_lt_succ hμ_44))) (by first | exact Or.inl rfl | exact Or.inr rfl) (by first | exact fun q => absurd q (by decide) | exact fun _ => hT1) (by first | exact fun q => absurd q (by decide) | exact fun _ => hS1.1) H locs hP hD hS ls (lv_sub hl [2, 3, 4, 1, 0] rfl)
            · skip
              obtain ⟨kn, hkn, ekn⟩ : ∃ j : Nat, j ≤ 20000 ∧ nv = nI j := by have h9 := c51; rw [Int32.le_iff_toInt_le, show (0 : Int32).toInt = 0 from rfl] at h9; exact ⟨nv.toInt.toNat, by omega, Int32.toInt_inj.mp (by rw [nI_toInt (by omega)]; omega)⟩
              have hkT : nv.toInt = kn := by rw [ekn, nI_toInt (by omega)]
              have hkn1 : 1 ≤ kn := by have h9 := c51; rw [Int32.le_iff_toInt_le, show (0 : Int32).toInt = 0 from rfl] at h9; omega
              refine lv_iload hx hb dd_M_tried_54 (lv_at hl 4 rfl) ?_
              refine kx_toN (n := kn) (ekn) ?_
              refine lv_aload_n hx hb dd_M_tried_56 rfl (lv_at hl 0 rfl) ?_
              refine va_get (D := D) (ci := 0) (v := .int (nI bk2_1)) (C := rr_M) (T := tt_M) (N := 37) hx hb hts hin0 hown hK hP 0 kg_17_0 rfl 12 (by decide) lk3 (fun _ h9 => h9) rfl dd_M_tried_57 ?_
              refine lv_icmp_gt (tgt := 76) hx hb dd_M_tried_60 (by decide) (fun c60 => ?_) (fun c60 => ?_)
              · skip
                have c60 : bk2_1 < kn := (nI_ltI (by omega) (by omega)).mp c60
                have hno : ∀ k : Nat, (k : Int) = nv.toInt → 1 ≤ k → k ≤ bk2_1 → (pt_no (pg_T kd wd sr od sk ru me si cn mn ps (pq_p (pm_br kd wd od cn ps) (cn + 1))) bk2_1) k := fun k e1 e2 e3 => absurd e3 (by omega)
                refine lv_iconst (v := nI 0) hx hb dd_M_tried_76 (by decide) ?_
                refine lv_istore (lv' := [(4, .int (nI 0)), (0, .ref o), (2, .int (nI el2_7)), (3, .int (ru 8)), (5, .int nv)]) hx hb dd_M_tried_77 hl (by decide) rfl (fun ls hl => ?_)
                refine lv_iload hx hb dd_M_tried_79 (lv_at hl 4 rfl) ?_
                refine lv_iload_n hx hb dd_M_tried_81 rfl (lv_at hl 3 rfl) ?_
                refine lv_if_le (tgt := 89) hx hb dd_M_tried_82 (by decide) (fun c82 => ?_) (fun c82 => ?_)
                · skip
                  have hq9 : ¬ 0 < (ru 8).toInt := by have h9 := c82; rw [Int32.le_iff_toInt_le, show (0 : Int32).toInt = 0 from rfl] at h9; omega
                  have hup := pt_up1 (x := nv) (by omega)
                  try have hS1 := pt_sr2 hsr hno hn0 hway.1 hway.2 hq9
                  try rw [← hup] at hS1
                  refine lv_iconst (v := nI 1) hx hb dd_M_tried_89 (by decide) ?_
                  refine lv_iadd hx hb dd_M_tried_90 ?_
                  refine lv_istore (lv' := [(5, .int (nv + (nI 1))), (4, .int (nI 0)), (0, .ref o), (2, .int (nI el2_7)), (3, .int (ru 8))]) hx hb dd_M_tried_91 hl (by decide) rfl (fun ls hl => ?_)
                  refine lv_goto (tgt := 44) hx hb dd_M_tried_93 (by decide) ?_
                  exact ih_44 (nI 0) (nv + (nI 1)) kf1 lb1 lc1 lo1 el1 ec1 eo1 eb1 ed1 iz1 ou1 ba1 de1 bc1 su1 ke1 (by first | (rw [if_neg c46n] at hμ_44; rw [if_neg (show ¬ nI 0 = nI 1 by decide)]; exact Nat.lt_of_lt_of_le (Nat.add_lt_add_right hS1.2 1) (Nat.le_of_lt_succ hμ_44)) | (rw [if_neg c46n] at hμ_44; rw [if_pos rfl]; exact Nat.lt_of_lt_of_le (Nat.succ_pos _) (Nat.le_of_lt_succ hμ_44))) (by first | exact Or.inl rfl | exact Or.inr rfl) (by first | exact fun q => absurd q (by decide) | exact fun _ => hT1) (by first | exact fun q => absurd q (by decide) | exact fun _ => hS1.1) H locs hP hD hS ls (lv_sub hl [2, 3, 4, 1, 0] rfl)
                · skip
                  have hq9 : 0 < (ru 8).toInt := by have h9 := c82; rw [Int32.le_iff_toInt_le, show (0 : Int32).toInt = 0 from rfl] at h9; omega
                  have hup := pt_dn1 (x := nv) (by omega)
                  try have hS1 := pt_sr1 hsr hno hn0 hway.1 hway.2 hq9
                  try rw [← hup] at hS1
                  refine lv_iconst (v := (-1)) hx hb dd_M_tried_85 (by decide) ?_
                  refine lv_goto (tgt := 90) hx hb dd_M_tried_86 (by decide) ?_
                  refine lv_iadd hx hb dd_M_tried_90 ?_
                  refine lv_istore (lv' := [(5, .int (nv + (-1))), (4, .int (nI 0)), (0, .ref o), (2, .int (nI el2_7)), (3, .int (ru 8))]) hx hb dd_M_tried_91 hl (by decide) rfl (fun ls hl => ?_)
                  refine lv_goto (tgt := 44) hx hb dd_M_tried_93 (by decide) ?_
                  exact ih_44 (nI 0) (nv + (-1)) kf1 lb1 lc1 lo1 el1 ec1 eo1 eb1 ed1 iz1 ou1 ba1 de1 bc1 su1 ke1 (by first | (rw [if_neg c46n] at hμ_44; rw [if_neg (show ¬ nI 0 = nI 1 by decide)]; exact Nat.lt_of_lt_of_le (Nat.add_lt_add_right hS1.2 1) (Nat.le_of_lt_succ hμ_44)) | (rw [if_neg c46n] at hμ_44; rw [if_pos rfl]; exact Nat.lt_of_lt_of_le (Nat.succ_pos _) (Nat.le_of_lt_succ hμ_44))) (by first | exact Or.inl rfl | exact Or.inr rfl) (by first | exact fun q => absurd q (by decide) | exact fun _ => hT1) (by first | exact fun q => absurd q (by decide) | exact fun _ => hS1.1) H locs hP hD hS ls (lv_sub hl [2, 3, 4, 1, 0] rfl)
              · skip
                have c60 : ¬ (bk2_1 < kn) := fun h => c60 ((nI_ltI (by omega) (by omega)).mpr h)
                refine lv_aload_n hx hb dd_M_tried_63 rfl (lv_at hl 0 rfl) ?_
                refine lv_iload hx hb dd_M_tried_64 (lv_at hl 4 rfl) ?_
                refine kx_toN (n := kn) (ekn) ?_
                refine kx_calli (wr := []) (va_runV (C := rr_M) (As := [.int (nI kn)]) (rest := []) ⟨hx, hb, hml, hown, hts⟩ (ct_M_made l D cI cJ cZ H.size o th cn a0 a1 a2 a3 a4 a5 mn a6 a7 ps bk2_1 a8 a9 a10 a11 a12 a13 a14 a15 kf1 lb1 lc1 lo1 el1 ec1 eo1 eb1 ed1 mp ml md mo mb a16 a17 kd wd sr od sk ru me si it2_1 iz1 ou1 ba1 de1 bc1 su1 ke1 kn (pq_p (pm_br kd wd od cn ps) (cn + 1)) og (by omega) (by omega) hbk1 hitB (fun x y hxy hy => pq_mono hxy (by rw [← hbE]; exact hy)) hbrB (by omega) (by omega) (by omega) (by omega) hOg) ⟨(callB_of 1 hts (kx_good kw_982) rfl rfl rfl (hts _ (kx_m kw_53)) (hts _ (kx_m kw_979)) (by decide +kernel) ⟨Nat.le_of_ble_eq_true rfl, Nat.le_of_ble_eq_true rfl⟩), (hts _ (kx_m kw_981)), (hts _ (kx_m kw_27))⟩ (kx_preV (ci := 0) (q0 := 0) hK hN (hP.sub [0, 1, 2, 3, 4, 5, 6, 7, 8, 9, 10, 11, 12, 13, 14, 15, 16] kt_17_0_1_2_3_4_5_6_7_8_9_10_11_12_13_14_15_16) (hD.sub [0, 1, 2, 3, 4, 5, 6, 7, 8, 9, 10, 11, 12, 13, 14, 15, 16] (by decide) ks_17_0_1_2_3_4_5_6_7_8_9_10_11_12_13_14_15_16) rfl kg_17_0) rfl rfl hl.1 rfl (lv_room (Nat.le_of_ble_eq_true rfl)) dd_M_tried_66 ⟨Nat.le_of_ble_eq_true rfl, Nat.le_of_ble_eq_true rfl⟩) hP hD hS hA [0, 1, 2, 3, 4, 5, 6, 7, 8, 9, 10, 11, 12, 13, 14, 15, 16] [] ks_17_0_1_2_3_4_5_6_7_8_9_10_11_12_13_14_15_16 ks_17_ (by decide) (by decide) (fun r66 u66 H locs hw66 hP hD hS => ?_)
                obtain ⟨iz2_66, ou2_66, ba2_66, de2_66, bc2_66, su2_66, ke2_66, kf2_66, lb2_66, lc2_66, lo2_66, el2_66, ec2_66, eo2_66, eb2_66, ed2_66⟩ := u66
                have hP : va_P D vwCl [(o, .inr (0, [.int (nI th), .int (nI cn), .ref a0, .ref a1, .ref a2, .ref a3, .ref a4, .ref a5, .int (nI mn), .ref a6, .ref a7, .int (nI ps), .int (nI bk2_1), .ref a8, .ref a9, .ref a10, .ref a11, .ref a12, .ref a13, .ref a14, .ref a15, .int (nI kf2_66), .int lb2_66, .int (nI lc2_66), .long lo2_66, .int (nI el2_66), .int (nI ec2_66), .long eo2_66, .int eb2_66, .long ed2_66, .int (nI mp), .int (nI ml), .long md, .long mo, .int mb, .ref a16, .ref a17])), (a0, .inl (cI, 4097, .inl kd)), (a1, .inl (cI, 4097, .inl wd)), (a2, .inl (cI, 4097, .inl sr)), (a3, .inl (cI, 4097, .inl od)), (a4, .inl (cI, 4097, .inl sk)), (a5, .inl (cI, 9, .inl ru)), (a6, .inl (cI, 258, .inl me)), (a7, .inl (cI, 8, .inl si)), (a8, .inl (cI, 402, .inl it2_1)), (a9, .inl (cZ, 3216, .inl iz2_66)), (a10, .inl (cJ, 3216, .inr (.inl ou2_66))), (a11, .inl (cI, 3216, .inl ba2_66)), (a12, .inl (cJ, 3216, .inr (.inl de2_66))), (a13, .inl (cJ, 161604, .inr (.inl bc2_66))), (a14, .inl (cJ, 6, .inr (.inl su2_66))), (a15, .inl (cJ, 6, .inr (.inl ke2_66)))] H := hP
                have hD : va_D A [(o, .inr (0, [.int (nI th), .int (nI cn), .ref a0, .ref a1, .ref a2, .ref a3, .ref a4, .ref a5, .int (nI mn), .ref a6, .ref a7, .int (nI ps), .int (nI bk2_1), .ref a8, .ref a9, .ref a10, .ref a11, .ref a12, .ref a13, .ref a14, .ref a15, .int (nI kf2_66), .int lb2_66, .int (nI lc2_66), .long lo2_66, .int (nI el2_66), .int (nI ec2_66), .long eo2_66, .int eb2_66, .long ed2_66, .int (nI mp), .int (nI ml), .long md, .long mo, .int mb, .ref a16, .ref a17])), (a0, .inl (cI, 4097, .inl kd)), (a1, .inl (cI, 4097, .inl wd)), (a2, .inl (cI, 4097, .inl sr)), (a3, .inl (cI, 4097, .inl od)), (a4, .inl (cI, 4097, .inl sk)), (a5, .inl (cI, 9, .inl ru)), (a6, .inl (cI, 258, .inl me)), (a7, .inl (cI, 8, .inl si)), (a8, .inl (cI, 402, .inl it2_1)), (a9, .inl (cZ, 3216, .inl iz2_66)), (a10, .inl (cJ, 3216, .inr (.inl ou2_66))), (a11, .inl (cI, 3216, .inl ba2_66)), (a12, .inl (cJ, 3216, .inr (.inl de2_66))), (a13, .inl (cJ, 161604, .inr (.inl bc2_66))), (a14, .inl (cJ, 6, .inr (.inl su2_66))), (a15, .inl (cJ, 6, .inr (.inl ke2_66)))] := hD
                obtain ⟨rfl, hw66⟩ := hw66
                have hw66 : (el2_66, ec2_66, eo2_66, eb2_66, ed2_66) = pg_E kd wd sr od sk ru me si cn mn ps (pq_p (pm_br kd wd od cn ps) (cn + 1)) bk2_1 kn (0, ec1, eo1, eb1, ed1) bk2_1 ∧ el2_66 ≤ 400 ∧ (∀ m9, 1 ≤ m9 → m9 ≤ bk2_1 → (kn = 0 ∨ m9 ≤ kn) → ∀ x, x < bk2_1 → ∀ c9, c9 < 4 → ∀ y, (pg_T kd wd sr od sk ru me si cn mn ps (pq_p (pm_br kd wd od cn ps) (cn + 1))) m9 x c9 = some y → pm_bk (bc2_66 (pm_pc x m9)) c9 = y.2.2.2) := hw66
                refine lv_if_eq (tgt := 76) hx hb dd_M_tried_69 (by decide) (fun c69 => ?_) (fun c69 => ?_)
                · skip
                  have c69 : ¬ (0 < el2_66) := kb_0.mp c69
                  obtain ⟨hE66, hl66, hk66⟩ := hw66
                  have hN66 := congrArg Prod.fst hE66
                  have hno : ∀ k : Nat, (k : Int) = nv.toInt → 1 ≤ k → k ≤ bk2_1 → (pt_no (pg_T kd wd sr od sk ru me si cn mn ps (pq_p (pm_br kd wd od cn ps) (cn + 1))) bk2_1) k := fun k e1 e2 e3 => by have e9 : k = kn := (by omega); subst e9; exact pt_none (s0 := (0, ec1, eo1, eb1, ed1)) rfl e2 e3 (by rw [← hN66]; exact c69)
                  refine lv_iconst (v := nI 0) hx hb dd_M_tried_76 (by decide) ?_
                  refine lv_istore (lv' := [(4, .int (nI 0)), (0, .ref o), (2, .int (nI el2_7)), (3, .int (ru 8)), (5, .int nv)]) hx hb dd_M_tried_77 hl (by decide) rfl (fun ls hl => ?_)
                  refine lv_iload hx hb dd_M_tried_79 (lv_at hl 4 rfl) ?_
                  refine lv_iload_n hx hb dd_M_tried_81 rfl (lv_at hl 3 rfl) ?_
                  refine lv_if_le (tgt := 89) hx hb dd_M_tried_82 (by decide) (fun c82 => ?_) (fun c82 => ?_)
                  · skip
                    have hq9 : ¬ 0 < (ru 8).toInt := by have h9 := c82; rw [Int32.le_iff_toInt_le, show (0 : Int32).toInt = 0 from rfl] at h9; omega
                    have hup := pt_up1 (x := nv) (by omega)
                    try have hS1 := pt_sr2 hsr hno hn0 hway.1 hway.2 hq9
                    try rw [← hup] at hS1
                    refine lv_iconst (v := nI 1) hx hb dd_M_tried_89 (by decide) ?_
                    refine lv_iadd hx hb dd_M_tried_90 ?_
                    refine lv_istore (lv' := [(5, .int (nv + (nI 1))), (4, .int (nI 0)), (0, .ref o), (2, .int (nI el2_7)), (3, .int (ru 8))]) hx hb dd_M_tried_91 hl (by decide) rfl (fun ls hl => ?_)
                    refine lv_goto (tgt := 44) hx hb dd_M_tried_93 (by decide) ?_
                    exact ih_44 (nI 0) (nv + (nI 1)) kf2_66 lb2_66 lc2_66 lo2_66 el2_66 ec2_66 eo2_66 eb2_66 ed2_66 iz2_66 ou2_66 ba2_66 de2_66 bc2_66 su2_66 ke2_66 (by first | (rw [if_neg c46n] at hμ_44; rw [if_neg (show ¬ nI 0 = nI 1 by decide)]; exact Nat.lt_of_lt_of_le (Nat.add_lt_add_right hS1.2 1) (Nat.le_of_lt_succ hμ_44)) | (rw [if_neg c46n] at hμ_44; rw [if_pos rfl]; exact Nat.lt_of_lt_of_le (Nat.succ_pos _) (Nat.le_of_lt_succ hμ_44))) (by first | exact Or.inl rfl | exact Or.inr rfl) (by first | exact fun q => absurd q (by decide) | exact fun _ => hT1) (by first | exact fun q => absurd q (by decide) | exact fun _ => hS1.1) H locs hP hD hS ls (lv_sub hl [2, 3, 4, 1, 0] rfl)
                  · skip
                    have hq9 : 0 < (ru 8).toInt := by have h9 := c82; rw [Int32.le_iff_toInt_le, show (0 : Int32).toInt = 0 from rfl] at h9; omega
                    have hup := pt_dn1 (x := nv) (by omega)
                    try have hS1 := pt_sr1 hsr hno hn0 hway.1 hway.2 hq9
                    try rw [← hup] at hS1
                    refine lv_iconst (v := (-1)) hx hb dd_M_tried_85 (by decide) ?_
                    refine lv_goto (tgt := 90) hx hb dd_M_tried_86 (by decide) ?_
                    refine lv_iadd hx hb dd_M_tried_90 ?_
                    refine lv_istore (lv' := [(5, .int (nv + (-1))), (4, .int (nI 0)), (0, .ref o), (2, .int (nI el2_7)), (3, .int (ru 8))]) hx hb dd_M_tried_91 hl (by decide) rfl (fun ls hl => ?_)
                    refine lv_goto (tgt := 44) hx hb dd_M_tried_93 (by decide) ?_
                    exact ih_44 (nI 0) (nv + (-1)) kf2_66 lb2_66 lc2_66 lo2_66 el2_66 ec2_66 eo2_66 eb2_66 ed2_66 iz2_66 ou2_66 ba2_66 de2_66 bc2_66 su2_66 ke2_66 (by first | (rw [if_neg c46n] at hμ_44; rw [if_neg (show ¬ nI 0 = nI 1 by decide)]; exact Nat.lt_of_lt_of_le (Nat.add_lt_add_right hS1.2 1) (Nat.le_of_lt_succ hμ_44)) | (rw [if_neg c46n] at hμ_44; rw [if_pos rfl]; exact Nat.lt_of_lt_of_le (Nat.succ_pos _) (Nat.le_of_lt_succ hμ_44))) (by first | exact Or.inl rfl | exact Or.inr rfl) (by first | exact fun q => absurd q (by decide) | exact fun _ => hT1) (by first | exact fun q => absurd q (by decide) | exact fun _ => hS1.1) H locs hP hD hS ls (lv_sub hl [2, 3, 4, 1, 0] rfl)
                · skip
                  have c69 : 0 < el2_66 := kb_1.mp c69
                  obtain ⟨hE66, hl66, hk66⟩ := hw66
                  have hN66 := congrArg Prod.fst hE66
                  have hT1 : pt_tr kd wd sr od sk ru me si cn mn ps (pq_p (pm_br kd wd od cn ps) (cn + 1)) bk2_1 el2_7 (ru 8).toInt (el2_66, ec2_66, eo2_66, eb2_66, ed2_66) bc2_66 := ⟨kn, (0, ec1, eo1, eb1, ed1), rfl, hE66, c69, hk66, Or.inr ⟨hkn1, by omega, hN66.trans (pt_some (s0 := (0, ec1, eo1, eb1, ed1)) rfl hkn1 (by omega) (by rw [← hN66]; exact c69)), by rw [← hkT]; exact hsr⟩⟩
                  refine lv_iconst (v := nI 1) hx hb dd_M_tried_72 (by decide) ?_
                  refine lv_goto (tgt := 77) hx hb dd_M_tried_73 (by decide) ?_
                  refine lv_istore (lv' := [(4, .int (nI 1)), (0, .ref o), (2, .int (nI el2_7)), (3, .int (ru 8)), (5, .int nv)]) hx hb dd_M_tried_77 hl (by decide) rfl (fun ls hl => ?_)
                  refine lv_iload hx hb dd_M_tried_79 (lv_at hl 4 rfl) ?_
                  refine lv_iload_n hx hb dd_M_tried_81 rfl (lv_at hl 3 rfl) ?_
                  refine lv_if_le (tgt := 89) hx hb dd_M_tried_82 (by decide) (fun c82 => ?_) (fun c82 => ?_)
                  · skip
                    have hq9 : ¬ 0 < (ru 8).toInt := by have h9 := c82; rw [Int32.le_iff_toInt_le, show (0 : Int32).toInt = 0 from rfl] at h9; omega
                    have hup := pt_up1 (x := nv) (by omega)
                    try have hS1 := pt_sr2 hsr hno hn0 hway.1 hway.2 hq9
                    try rw [← hup] at hS1
                    refine lv_iconst (v := nI 1) hx hb dd_M_tried_89 (by decide) ?_
                    refine lv_iadd hx hb dd_M_tried_90 ?_
                    refine lv_istore (lv' := [(5, .int (nv + (nI 1))), (4, .int (nI 1)), (0, .ref o), (2, .int (nI el2_7)), (3, .int (ru 8))]) hx hb dd_M_tried_91 hl (by decide) rfl (fun ls hl => ?_)
                    refine lv_goto (tgt := 44) hx hb dd_M_tried_93 (by decide) ?_
                    exact ih_44 (nI 1) (nv + (nI 1)) kf2_66 lb2_66 lc2_66 lo2_66 el2_66 ec2_66 eo2_66 eb2_66 ed2_66 iz2_66 ou2_66 ba2_66 de2_66 bc2_66 su2_66 ke2_66 (by first | (rw [if_neg c46n] at hμ_44; rw [if_neg (show ¬ nI 0 = nI 1 by decide)]; exact Nat.lt_of_lt_of_le (Nat.add_lt_add_right hS1.2 1) (Nat.le_of_lt_succ hμ_44)) | (rw [if_neg c46n] at hμ_44; rw [if_pos rfl]; exact Nat.lt_of_lt_of_le (Nat.succ_pos _) (Nat.le_of_lt_succ hμ_44))) (by first | exact Or.inl rfl | exact Or.inr rfl) (by first | exact fun q => absurd q (by decide) | exact fun _ => hT1) (by first | exact fun q => absurd q (by decide) | exact fun _ => hS1.1) H locs hP hD hS ls (lv_sub hl [2, 3, 4, 1, 0] rfl)
                  · skip
                    have hq9 : 0 < (ru 8).toInt := by have h9 := c82; rw [Int32.le_iff_toInt_le, show (0 : Int32).toInt = 0 from rfl] at h9; omega
                    have hup := pt_dn1 (x := nv) (by omega)
                    try have hS1 := pt_sr1 hsr hno hn0 hway.1 hway.2 hq9
                    try rw [← hup] at hS1
                    refine lv_iconst (v := (-1)) hx hb dd_M_tried_85 (by decide) ?_
                    refine lv_goto (tgt := 90) hx hb dd_M_tried_86 (by decide) ?_
                    refine lv_iadd hx hb dd_M_tried_90 ?_
                    refine lv_istore (lv' := [(5, .int (nv + (-1))), (4, .int (nI 1)), (0, .ref o), (2, .int (nI el2_7)), (3, .int (ru 8))]) hx hb dd_M_tried_91 hl (by decide) rfl (fun ls hl => ?_)
                    refine lv_goto (tgt := 44) hx hb dd_M_tried_93 (by decide) ?_
                    exact ih_44 (nI 1) (nv + (-1)) kf2_66 lb2_66 lc2_66 lo2_66 el2_66 ec2_66 eo2_66 eb2_66 ed2_66 iz2_66 ou2_66 ba2_66 de2_66 bc2_66 su2_66 ke2_66 (by first | (rw [if_neg c46n] at hμ_44; rw [if_neg (show ¬ nI 0 = nI 1 by decide)]; exact Nat.lt_of_lt_of_le (Nat.add_lt_add_right hS1.2 1) (Nat.le_of_lt_succ hμ_44)) | (rw [if_neg c46n] at hμ_44; rw [if_pos rfl]; exact Nat.lt_of_lt_of_le (Nat.succ_pos _) (Nat.le_of_lt_succ hμ_44))) (by first | exact Or.inl rfl | exact Or.inr rfl) (by first | exact fun q => absurd q (by decide) | exact fun _ => hT1) (by first | exact fun q => absurd q (by decide) | exact fun _ => hS1.1) H locs hP hD hS ls (lv_sub hl [2, 3, 4, 1, 0] rfl)
      exact lp44 ((if (nI 1) = nI 1 then 0 else (((nI el2_7) + (ru 8)).toInt - el2_7).natAbs + 1) + 1) (nI 1) ((nI el2_7) + (ru 8)) kf2_7 lb2_7 lc2_7 lo2_7 el2_7 ec2_7 eo2_7 eb2_7 ed2_7 iz2_7 ou2_7 ba2_7 de2_7 bc2_7 su2_7 ke2_7 (Nat.lt_succ_self _) (by first | exact Or.inl rfl | exact Or.inr rfl) (by first | exact fun q => absurd q (by decide) | exact fun _ => hT0) (by first | exact fun q => absurd q (by decide) | exact fun _ => hS0) H locs hP hD hS ls (lv_sub hl [5, 3, 2, 1, 0] rfl)
  · skip
    have c10 : ¬ (0 < el2_7) := kb_0.mp c10
    obtain ⟨hE7, hl7, hk7⟩ := hw7
    have hN7 : el2_7 = (pg_E kd wd sr od sk ru me si cn mn ps (pq_p (pm_br kd wd od cn ps) (cn + 1)) bk2_1 0 (0, ec, eo, eb, ed) bk2_1).1 := congrArg Prod.fst hE7
    refine lv_iconst (v := nI 0) hx hb dd_M_tried_13 (by decide) ?_
    rw [hQ]
    exact kx_zret hx hb hr hlocks hK hN hS dd_M_tried_14 (by decide) (kf2_7, lb2_7, lc2_7, lo2_7, el2_7, ec2_7, eo2_7, eb2_7, ed2_7, iz2_7, ou2_7, ba2_7, de2_7, bc2_7, su2_7, ke2_7, bk2_1, it2_1) hP hD (by rw [hbE] at hN7; exact ⟨kb_f (by rw [← hN7]; exact c10), hbE, fun x hx => hitB x (by rw [hbE]; exact hx), fun q => absurd q (by rw [← hN7]; exact c10)⟩)
