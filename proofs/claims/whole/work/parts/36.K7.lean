/-! a line's demerits, as the class reckons them -/
def pk_d0 (s : Int64) : Int64 := if 10000 ≤ s then 100000000 else (if (-10000) < s then s * s else 100000000)
def pk_d1 (d p : Int64) : Int64 := if p ≤ 0 then (if p ≤ (-10000) then d else d - p * p) else d + p * p
def pk_d2 (d : Int64) (hx hy : Int32) (w : Int64) : Int64 := if hx = 0 then d else if hy = 0 then d else d + w
def pk_d3 (d : Int64) (hx : Int32) (y n : Nat) (w : Int64) : Int64 := if hx = 0 then d else if y = n then d + w else d
def pk_dem (ru : Nat → Int32) (fb p hx hy : Int32) (y n : Nat) : Int64 := pk_d3 (pk_d2 (pk_d1 (pk_d0 (ru 2 + fb).toInt64) p.toInt64) hx hy (ru 6).toInt64) hx y n (ru 7).toInt64
theorem kg_7_0 {c0 c1 c2 c3 c4 c5 c6 : Nat × va_E} : ([c0, c1, c2, c3, c4, c5, c6] : va_W)[0]? = some c0 := rfl
theorem kg_7_1 {c0 c1 c2 c3 c4 c5 c6 : Nat × va_E} : ([c0, c1, c2, c3, c4, c5, c6] : va_W)[1]? = some c1 := rfl
theorem kg_7_2 {c0 c1 c2 c3 c4 c5 c6 : Nat × va_E} : ([c0, c1, c2, c3, c4, c5, c6] : va_W)[2]? = some c2 := rfl
theorem kg_7_3 {c0 c1 c2 c3 c4 c5 c6 : Nat × va_E} : ([c0, c1, c2, c3, c4, c5, c6] : va_W)[3]? = some c3 := rfl
theorem kg_7_4 {c0 c1 c2 c3 c4 c5 c6 : Nat × va_E} : ([c0, c1, c2, c3, c4, c5, c6] : va_W)[4]? = some c4 := rfl
theorem kg_7_5 {c0 c1 c2 c3 c4 c5 c6 : Nat × va_E} : ([c0, c1, c2, c3, c4, c5, c6] : va_W)[5]? = some c5 := rfl
theorem kg_7_6 {c0 c1 c2 c3 c4 c5 c6 : Nat × va_E} : ([c0, c1, c2, c3, c4, c5, c6] : va_W)[6]? = some c6 := rfl
theorem kw_188 : Cond.fieldLink rr_Se (69) "LineDesk$Breaks" "count" "I" ∈ kx_T := kx_in (i := 188) (by decide +kernel) (by decide +kernel)
theorem kw_195 : Cond.fieldLink rr_Se (205) "LineDesk$Breaks" "cost" "[I" ∈ kx_T := kx_in (i := 195) (by decide +kernel) (by decide +kernel)
theorem kw_204 : Cond.fieldLink rr_Se (208) "LineDesk$Breaks" "hyphenated" "[Z" ∈ kx_T := kx_in (i := 204) (by decide +kernel) (by decide +kernel)
theorem kw_282 : Cond.fieldLink rr_Se (22) "LineDesk$Search" "breaks" "LLineDesk$Breaks;" ∈ kx_T := kx_in (i := 282) (by decide +kernel) (by decide +kernel)
theorem kw_721 : Cond.constantLong rr_Se (199) (10000) ∈ kx_T := kx_in (i := 721) (by decide +kernel) (by decide +kernel)
theorem kw_722 : Cond.constantLong rr_Se (201) (-10000) ∈ kx_T := kx_in (i := 722) (by decide +kernel) (by decide +kernel)
theorem kw_723 : Cond.constantLong rr_Se (203) (100000000) ∈ kx_T := kx_in (i := 723) (by decide +kernel) (by decide +kernel)
theorem dd_Se_demeritsOf_0 : decode bb_Se_demeritsOf 0 = .ok (.aload_n 0, 1) := by decide +kernel
theorem dd_Se_demeritsOf_1 : decode bb_Se_demeritsOf 1 = .ok (.getfield 9, 3) := by decide +kernel
theorem dd_Se_demeritsOf_4 : decode bb_Se_demeritsOf 4 = .ok (.getfield 97, 3) := by decide +kernel
theorem dd_Se_demeritsOf_7 : decode bb_Se_demeritsOf 7 = .ok (.iconst 2, 1) := by decide +kernel
theorem dd_Se_demeritsOf_8 : decode bb_Se_demeritsOf 8 = .ok (.iaload, 1) := by decide +kernel
theorem dd_Se_demeritsOf_9 : decode bb_Se_demeritsOf 9 = .ok (.aload_n 0, 1) := by decide +kernel
theorem dd_Se_demeritsOf_10 : decode bb_Se_demeritsOf 10 = .ok (.getfield 29, 3) := by decide +kernel
theorem dd_Se_demeritsOf_13 : decode bb_Se_demeritsOf 13 = .ok (.getfield 177, 3) := by decide +kernel
theorem dd_Se_demeritsOf_16 : decode bb_Se_demeritsOf 16 = .ok (.iadd, 1) := by decide +kernel
theorem dd_Se_demeritsOf_17 : decode bb_Se_demeritsOf 17 = .ok (.i2l, 1) := by decide +kernel
theorem dd_Se_demeritsOf_18 : decode bb_Se_demeritsOf 18 = .ok (.lstore_n 3, 1) := by decide +kernel
theorem dd_Se_demeritsOf_19 : decode bb_Se_demeritsOf 19 = .ok (.lload_n 3, 1) := by decide +kernel
theorem dd_Se_demeritsOf_20 : decode bb_Se_demeritsOf 20 = .ok (.ldc2_w 199, 3) := by decide +kernel
theorem dd_Se_demeritsOf_23 : decode bb_Se_demeritsOf 23 = .ok (.lcmp, 1) := by decide +kernel
theorem dd_Se_demeritsOf_24 : decode bb_Se_demeritsOf 24 = .ok (.ifCond .ge (11), 3) := by decide +kernel
theorem dd_Se_demeritsOf_27 : decode bb_Se_demeritsOf 27 = .ok (.lload_n 3, 1) := by decide +kernel
theorem dd_Se_demeritsOf_28 : decode bb_Se_demeritsOf 28 = .ok (.ldc2_w 201, 3) := by decide +kernel
theorem dd_Se_demeritsOf_31 : decode bb_Se_demeritsOf 31 = .ok (.lcmp, 1) := by decide +kernel
theorem dd_Se_demeritsOf_32 : decode bb_Se_demeritsOf 32 = .ok (.ifCond .gt (9), 3) := by decide +kernel
theorem dd_Se_demeritsOf_35 : decode bb_Se_demeritsOf 35 = .ok (.ldc2_w 203, 3) := by decide +kernel
theorem dd_Se_demeritsOf_38 : decode bb_Se_demeritsOf 38 = .ok (.goto (6), 3) := by decide +kernel
theorem dd_Se_demeritsOf_41 : decode bb_Se_demeritsOf 41 = .ok (.lload_n 3, 1) := by decide +kernel
theorem dd_Se_demeritsOf_42 : decode bb_Se_demeritsOf 42 = .ok (.lload_n 3, 1) := by decide +kernel
theorem dd_Se_demeritsOf_43 : decode bb_Se_demeritsOf 43 = .ok (.lmul, 1) := by decide +kernel
theorem dd_Se_demeritsOf_44 : decode bb_Se_demeritsOf 44 = .ok (.lstore 5, 2) := by decide +kernel
theorem dd_Se_demeritsOf_46 : decode bb_Se_demeritsOf 46 = .ok (.aload_n 0, 1) := by decide +kernel
theorem dd_Se_demeritsOf_47 : decode bb_Se_demeritsOf 47 = .ok (.getfield 22, 3) := by decide +kernel
theorem dd_Se_demeritsOf_50 : decode bb_Se_demeritsOf 50 = .ok (.getfield 205, 3) := by decide +kernel
theorem dd_Se_demeritsOf_53 : decode bb_Se_demeritsOf 53 = .ok (.iload_n 2, 1) := by decide +kernel
theorem dd_Se_demeritsOf_54 : decode bb_Se_demeritsOf 54 = .ok (.iaload, 1) := by decide +kernel
theorem dd_Se_demeritsOf_55 : decode bb_Se_demeritsOf 55 = .ok (.i2l, 1) := by decide +kernel
theorem dd_Se_demeritsOf_56 : decode bb_Se_demeritsOf 56 = .ok (.lstore 7, 2) := by decide +kernel
theorem dd_Se_demeritsOf_58 : decode bb_Se_demeritsOf 58 = .ok (.lload 7, 2) := by decide +kernel
theorem dd_Se_demeritsOf_60 : decode bb_Se_demeritsOf 60 = .ok (.lconst 0, 1) := by decide +kernel
theorem dd_Se_demeritsOf_61 : decode bb_Se_demeritsOf 61 = .ok (.lcmp, 1) := by decide +kernel
theorem dd_Se_demeritsOf_62 : decode bb_Se_demeritsOf 62 = .ok (.ifCond .le (16), 3) := by decide +kernel
theorem dd_Se_demeritsOf_65 : decode bb_Se_demeritsOf 65 = .ok (.lload 5, 2) := by decide +kernel
theorem dd_Se_demeritsOf_67 : decode bb_Se_demeritsOf 67 = .ok (.lload 7, 2) := by decide +kernel
theorem dd_Se_demeritsOf_69 : decode bb_Se_demeritsOf 69 = .ok (.lload 7, 2) := by decide +kernel
theorem dd_Se_demeritsOf_71 : decode bb_Se_demeritsOf 71 = .ok (.lmul, 1) := by decide +kernel
theorem dd_Se_demeritsOf_72 : decode bb_Se_demeritsOf 72 = .ok (.ladd, 1) := by decide +kernel
theorem dd_Se_demeritsOf_73 : decode bb_Se_demeritsOf 73 = .ok (.lstore 5, 2) := by decide +kernel
theorem dd_Se_demeritsOf_75 : decode bb_Se_demeritsOf 75 = .ok (.goto (22), 3) := by decide +kernel
theorem dd_Se_demeritsOf_78 : decode bb_Se_demeritsOf 78 = .ok (.lload 7, 2) := by decide +kernel
theorem dd_Se_demeritsOf_80 : decode bb_Se_demeritsOf 80 = .ok (.ldc2_w 201, 3) := by decide +kernel
theorem dd_Se_demeritsOf_83 : decode bb_Se_demeritsOf 83 = .ok (.lcmp, 1) := by decide +kernel
theorem dd_Se_demeritsOf_84 : decode bb_Se_demeritsOf 84 = .ok (.ifCond .le (13), 3) := by decide +kernel
theorem dd_Se_demeritsOf_87 : decode bb_Se_demeritsOf 87 = .ok (.lload 5, 2) := by decide +kernel
theorem dd_Se_demeritsOf_89 : decode bb_Se_demeritsOf 89 = .ok (.lload 7, 2) := by decide +kernel
theorem dd_Se_demeritsOf_91 : decode bb_Se_demeritsOf 91 = .ok (.lload 7, 2) := by decide +kernel
theorem dd_Se_demeritsOf_93 : decode bb_Se_demeritsOf 93 = .ok (.lmul, 1) := by decide +kernel
theorem dd_Se_demeritsOf_94 : decode bb_Se_demeritsOf 94 = .ok (.lsub, 1) := by decide +kernel
theorem dd_Se_demeritsOf_95 : decode bb_Se_demeritsOf 95 = .ok (.lstore 5, 2) := by decide +kernel
theorem dd_Se_demeritsOf_97 : decode bb_Se_demeritsOf 97 = .ok (.aload_n 0, 1) := by decide +kernel
theorem dd_Se_demeritsOf_98 : decode bb_Se_demeritsOf 98 = .ok (.getfield 22, 3) := by decide +kernel
theorem dd_Se_demeritsOf_101 : decode bb_Se_demeritsOf 101 = .ok (.getfield 208, 3) := by decide +kernel
theorem dd_Se_demeritsOf_104 : decode bb_Se_demeritsOf 104 = .ok (.iload_n 1, 1) := by decide +kernel
theorem dd_Se_demeritsOf_105 : decode bb_Se_demeritsOf 105 = .ok (.baload, 1) := by decide +kernel
theorem dd_Se_demeritsOf_106 : decode bb_Se_demeritsOf 106 = .ok (.ifCond .eq (31), 3) := by decide +kernel
theorem dd_Se_demeritsOf_109 : decode bb_Se_demeritsOf 109 = .ok (.aload_n 0, 1) := by decide +kernel
theorem dd_Se_demeritsOf_110 : decode bb_Se_demeritsOf 110 = .ok (.getfield 22, 3) := by decide +kernel
theorem dd_Se_demeritsOf_113 : decode bb_Se_demeritsOf 113 = .ok (.getfield 208, 3) := by decide +kernel
theorem dd_Se_demeritsOf_116 : decode bb_Se_demeritsOf 116 = .ok (.iload_n 2, 1) := by decide +kernel
theorem dd_Se_demeritsOf_117 : decode bb_Se_demeritsOf 117 = .ok (.baload, 1) := by decide +kernel
theorem dd_Se_demeritsOf_118 : decode bb_Se_demeritsOf 118 = .ok (.ifCond .eq (19), 3) := by decide +kernel
theorem dd_Se_demeritsOf_121 : decode bb_Se_demeritsOf 121 = .ok (.lload 5, 2) := by decide +kernel
theorem dd_Se_demeritsOf_123 : decode bb_Se_demeritsOf 123 = .ok (.aload_n 0, 1) := by decide +kernel
theorem dd_Se_demeritsOf_124 : decode bb_Se_demeritsOf 124 = .ok (.getfield 9, 3) := by decide +kernel
theorem dd_Se_demeritsOf_127 : decode bb_Se_demeritsOf 127 = .ok (.getfield 97, 3) := by decide +kernel
theorem dd_Se_demeritsOf_130 : decode bb_Se_demeritsOf 130 = .ok (.bipush (6), 2) := by decide +kernel
theorem dd_Se_demeritsOf_132 : decode bb_Se_demeritsOf 132 = .ok (.iaload, 1) := by decide +kernel
theorem dd_Se_demeritsOf_133 : decode bb_Se_demeritsOf 133 = .ok (.i2l, 1) := by decide +kernel
theorem dd_Se_demeritsOf_134 : decode bb_Se_demeritsOf 134 = .ok (.ladd, 1) := by decide +kernel
theorem dd_Se_demeritsOf_135 : decode bb_Se_demeritsOf 135 = .ok (.lstore 5, 2) := by decide +kernel
theorem dd_Se_demeritsOf_137 : decode bb_Se_demeritsOf 137 = .ok (.aload_n 0, 1) := by decide +kernel
theorem dd_Se_demeritsOf_138 : decode bb_Se_demeritsOf 138 = .ok (.getfield 22, 3) := by decide +kernel
theorem dd_Se_demeritsOf_141 : decode bb_Se_demeritsOf 141 = .ok (.getfield 208, 3) := by decide +kernel
theorem dd_Se_demeritsOf_144 : decode bb_Se_demeritsOf 144 = .ok (.iload_n 1, 1) := by decide +kernel
theorem dd_Se_demeritsOf_145 : decode bb_Se_demeritsOf 145 = .ok (.baload, 1) := by decide +kernel
theorem dd_Se_demeritsOf_146 : decode bb_Se_demeritsOf 146 = .ok (.ifCond .eq (30), 3) := by decide +kernel
theorem dd_Se_demeritsOf_149 : decode bb_Se_demeritsOf 149 = .ok (.iload_n 2, 1) := by decide +kernel
theorem dd_Se_demeritsOf_150 : decode bb_Se_demeritsOf 150 = .ok (.aload_n 0, 1) := by decide +kernel
theorem dd_Se_demeritsOf_151 : decode bb_Se_demeritsOf 151 = .ok (.getfield 22, 3) := by decide +kernel
theorem dd_Se_demeritsOf_154 : decode bb_Se_demeritsOf 154 = .ok (.getfield 69, 3) := by decide +kernel
theorem dd_Se_demeritsOf_157 : decode bb_Se_demeritsOf 157 = .ok (.if_icmp .ne (19), 3) := by decide +kernel
theorem dd_Se_demeritsOf_160 : decode bb_Se_demeritsOf 160 = .ok (.lload 5, 2) := by decide +kernel
theorem dd_Se_demeritsOf_162 : decode bb_Se_demeritsOf 162 = .ok (.aload_n 0, 1) := by decide +kernel
theorem dd_Se_demeritsOf_163 : decode bb_Se_demeritsOf 163 = .ok (.getfield 9, 3) := by decide +kernel
theorem dd_Se_demeritsOf_166 : decode bb_Se_demeritsOf 166 = .ok (.getfield 97, 3) := by decide +kernel
theorem dd_Se_demeritsOf_169 : decode bb_Se_demeritsOf 169 = .ok (.bipush (7), 2) := by decide +kernel
theorem dd_Se_demeritsOf_171 : decode bb_Se_demeritsOf 171 = .ok (.iaload, 1) := by decide +kernel
theorem dd_Se_demeritsOf_172 : decode bb_Se_demeritsOf 172 = .ok (.i2l, 1) := by decide +kernel
theorem dd_Se_demeritsOf_173 : decode bb_Se_demeritsOf 173 = .ok (.ladd, 1) := by decide +kernel
theorem dd_Se_demeritsOf_174 : decode bb_Se_demeritsOf 174 = .ok (.lstore 5, 2) := by decide +kernel
theorem dd_Se_demeritsOf_176 : decode bb_Se_demeritsOf 176 = .ok (.lload 5, 2) := by decide +kernel
theorem dd_Se_demeritsOf_178 : decode bb_Se_demeritsOf 178 = .ok (.lreturn, 1) := by decide +kernel

set_option maxHeartbeats 4000000 in
set_option maxRecDepth 100000 in
theorem ct_Se_demeritsOf (l : Launch) (D : va_G) (cI cJ cZ : ClassId) (sz : Nat) (h : Nat) (t : Nat) (v1 : Nat) (v2 : Nat) (v3 : Nat) (v4 : Nat) (v5 : Nat) (v6 : Nat) (v7 : Nat) (ps : Nat) (ly : Nat) (op : Int32) (pl : Nat) (wl : Nat) (wc : Nat) (g : Nat) (g0 : Nat) (g1 : Nat) (g2 : Nat) (g3 : Nat) (mc : Nat) (ru : Nat → Int32) (f : Nat) (fb : Int32) (fc : Nat) (fo : Int64) (k : Nat) (bn : Nat) (lf : Nat) (j1 : Nat) (j2 : Nat) (j3 : Nat) (j4 : Nat) (j5 : Nat) (j6 : Nat) (j7 : Nat) (lk : Nat) (bo : Nat → Int32) (bh : Nat → Int32) (x : Nat) (y : Nat) (hx1 : x < lk) (hy1 : y < lk) (hlk : lk < 2 ^ 30) (hbn : bn < lk) : kx_Ml l yy_Se_demeritsOf ww_Se_demeritsOf ({ frames := 0, cells := 0, slots := 0, locals := 0 }) D vwCl (kx_ty cI cJ cZ) [.ref h, .int (nI x), .int (nI y)] [(h, .inr (7, [.ref g, .ref t, .ref k, .ref f, .ref v1, .ref v2, .ref v3, .ref v4, .int (nI ps), .int (nI ly), .int op, .int (nI pl), .int (nI wl), .int (nI wc), .ref v5, .ref v6, .ref v7])), (g, .inr (8, [.ref g0, .ref g1, .ref g2, .ref g3, .int (nI mc)])), (g0, .inl (cI, 9, .inl ru)), (f, .inr (3, [.int fb, .int (nI fc), .long fo])), (k, .inr (2, [.int (nI bn), .int (nI lf), .ref j1, .ref j2, .ref j3, .ref j4, .ref j5, .ref j6, .ref j7])), (j2, .inl (cI, lk, .inl bo)), (j7, .inl (cZ, lk, .inl bh))] sz (fun (r : Int64) (u : Unit) => r = pk_dem ru fb (bo y) (bh x) (bh y) y bn) (fun (u : Unit) => [(h, .inr (7, [.ref g, .ref t, .ref k, .ref f, .ref v1, .ref v2, .ref v3, .ref v4, .int (nI ps), .int (nI ly), .int op, .int (nI pl), .int (nI wl), .int (nI wc), .ref v5, .ref v6, .ref v7])), (g, .inr (8, [.ref g0, .ref g1, .ref g2, .ref g3, .int (nI mc)])), (g0, .inl (cI, 9, .inl ru)), (f, .inr (3, [.int fb, .int (nI fc), .long fo])), (k, .inr (2, [.int (nI bn), .int (nI lf), .ref j1, .ref j2, .ref j3, .ref j4, .ref j5, .ref j6, .ref j7])), (j2, .inl (cI, lk, .inl bo)), (j7, .inl (cZ, lk, .inl bh))]) 0 0 := by
  refine kx_startl (by decide) rfl (Nat.le_of_ble_eq_true rfl) ?_
  intro p e s m below meth c A ls hx hb hr hml hts hown hlocks hin hP hK hN hD hA hS hl
  have hl : lv_has ls 9 [(0, .ref h), (1, .int (nI x)), (2, .int (nI y))] := hl
  have hown : s.vm.findClass rr_Se = some m.cls := hown
  have lk0 := hts _ (kx_m kw_278)
  have hin7 : ∀ w ∈ u_ws rr_Se tt_Se 17, w ∈ ww_Se_demeritsOf := fun w h => kx_m (kf_Se w h)
  have lk2 := hts _ (kx_m kw_102)
  have hin8 : ∀ w ∈ u_ws rr_Sg tt_Sg 5, w ∈ ww_Se_demeritsOf := fun w h => kx_m (kf_Sg w h)
  have lk4 := hts _ (kx_m kw_284)
  have lk5 := hts _ (kx_m kw_233)
  have hin3 : ∀ w ∈ u_ws rr_Ft tt_Ft 3, w ∈ ww_Se_demeritsOf := fun w h => kx_m (kf_Ft w h)
  have lk7 := hts _ (kx_m kw_721)
  have lk8 := hts _ (kx_m kw_723)
  have lk9 := hts _ (kx_m kw_722)
  have lk10 := hts _ (kx_m kw_282)
  have lk11 := hts _ (kx_m kw_195)
  have hin2 : ∀ w ∈ u_ws rr_Bk tt_Bk 9, w ∈ ww_Se_demeritsOf := fun w h => kx_m (kf_Bk w h)
  have lk13 := hts _ (kx_m kw_204)
  have lk14 := hts _ (kx_m kw_188)
  obtain ⟨H, hH⟩ : ∃ H, H = s.heap := ⟨_, rfl⟩
  obtain ⟨locs, hlocs⟩ : ∃ z : List Loc, z = [] := ⟨_, rfl⟩
  have hP : va_P D vwCl [(h, .inr (7, [.ref g, .ref t, .ref k, .ref f, .ref v1, .ref v2, .ref v3, .ref v4, .int (nI ps), .int (nI ly), .int op, .int (nI pl), .int (nI wl), .int (nI wc), .ref v5, .ref v6, .ref v7])), (g, .inr (8, [.ref g0, .ref g1, .ref g2, .ref g3, .int (nI mc)])), (g0, .inl (cI, 9, .inl ru)), (f, .inr (3, [.int fb, .int (nI fc), .long fo])), (k, .inr (2, [.int (nI bn), .int (nI lf), .ref j1, .ref j2, .ref j3, .ref j4, .ref j5, .ref j6, .ref j7])), (j2, .inl (cI, lk, .inl bo)), (j7, .inl (cZ, lk, .inl bh))] H := by rw [hH]; exact hP
  have hS : va_S A s.heap H locs := by rw [hH, hlocs]; exact hS
  refine kx_gen hH hlocs ?_
  clear hH hlocs
  refine kx_nameQ (fun Q hQ => ?_)
  refine lv_aload_n hx hb dd_Se_demeritsOf_0 rfl (lv_at hl 0 rfl) ?_
  refine va_get (D := D) (ci := 7) (v := .ref g) (C := rr_Se) (T := tt_Se) (N := 17) hx hb hts hin7 hown hK hP 0 kg_7_0 rfl 0 (by decide) lk0 (fun _ h9 => h9) rfl dd_Se_demeritsOf_1 ?_
  refine va_get (D := D) (ci := 8) (v := .ref g0) (C := rr_Sg) (T := tt_Sg) (N := 5) hx hb hts hin8 hown hK hP 1 kg_7_1 rfl 0 (by decide) lk2 (fun _ h9 => h9) rfl dd_Se_demeritsOf_4 ?_
  refine lv_iconst (v := nI 2) hx hb dd_Se_demeritsOf_7 (by decide) ?_
  refine kx_iald (q0 := 2) (t0 := 0) hx hb dd_Se_demeritsOf_8 hK hP kg_7_2 rfl (by omega) (by omega) ?_
  refine lv_aload_n hx hb dd_Se_demeritsOf_9 rfl (lv_at hl 0 rfl) ?_
  refine va_get (D := D) (ci := 7) (v := .ref f) (C := rr_Se) (T := tt_Se) (N := 17) hx hb hts hin7 hown hK hP 0 kg_7_0 rfl 3 (by decide) lk4 (fun _ h9 => h9) rfl dd_Se_demeritsOf_10 ?_
  refine va_get (D := D) (ci := 3) (v := .int fb) (C := rr_Ft) (T := tt_Ft) (N := 3) hx hb hts hin3 hown hK hP 3 kg_7_3 rfl 0 (by decide) lk5 (fun _ h9 => h9) rfl dd_Se_demeritsOf_13 ?_
  refine lv_iadd hx hb dd_Se_demeritsOf_16 ?_
  refine lv_i2l hx hb dd_Se_demeritsOf_17 rfl ?_
  refine lv_lstore_n (lv' := [(3, .long (((ru 2) + fb).toInt64)), (0, .ref h), (1, .int (nI x)), (2, .int (nI y))]) hx hb dd_Se_demeritsOf_18 rfl hl (by decide) rfl (fun ls hl => ?_)
  refine lv_lload_n hx hb dd_Se_demeritsOf_19 rfl (lv_at hl 0 rfl) ?_
  refine lv_ldc2 (v := (10000)) hx hb hown lk7 dd_Se_demeritsOf_20 ?_
  refine W.lcmp hx hb dd_Se_demeritsOf_23 ?_
  refine kx_joinl (D := D) (cl := vwCl) (A := A) (ws := [(h, .inr (7, [.ref g, .ref t, .ref k, .ref f, .ref v1, .ref v2, .ref v3, .ref v4, .int (nI ps), .int (nI ly), .int op, .int (nI pl), .int (nI wl), .int (nI wc), .ref v5, .ref v6, .ref v7])), (g, .inr (8, [.ref g0, .ref g1, .ref g2, .ref g3, .int (nI mc)])), (g0, .inl (cI, 9, .inl ru)), (f, .inr (3, [.int fb, .int (nI fc), .long fo])), (k, .inr (2, [.int (nI bn), .int (nI lf), .ref j1, .ref j2, .ref j3, .ref j4, .ref j5, .ref j6, .ref j7])), (j2, .inl (cI, lk, .inl bo)), (j7, .inl (cZ, lk, .inl bh))]) (Y := 44) (ls1 := ls) (st1 := []) (if (10000 : Int64) ≤ (((ru 2) + fb).toInt64) then (100000000 : Int64) else (if (-10000 : Int64) < (((ru 2) + fb).toInt64) then ((((ru 2) + fb).toInt64) * (((ru 2) + fb).toInt64)) else (100000000 : Int64))) (fun v44 H locs e_v44 hP hD hS => ?_) (fun K44 => ?_)
  · skip
    obtain rfl : v44 = pk_d0 (ru 2 + fb).toInt64 := by rw [e_v44]; rfl
    refine lv_lstore (lv' := [(5, .long (pk_d0 (ru 2 + fb).toInt64)), (3, .long (((ru 2) + fb).toInt64)), (0, .ref h), (1, .int (nI x)), (2, .int (nI y))]) hx hb dd_Se_demeritsOf_44 hl (by decide) rfl (fun ls hl => ?_)
    refine lv_aload_n hx hb dd_Se_demeritsOf_46 rfl (lv_at hl 2 rfl) ?_
    refine va_get (D := D) (ci := 7) (v := .ref k) (C := rr_Se) (T := tt_Se) (N := 17) hx hb hts hin7 hown hK hP 0 kg_7_0 rfl 2 (by decide) lk10 (fun _ h9 => h9) rfl dd_Se_demeritsOf_47 ?_
    refine va_get (D := D) (ci := 2) (v := .ref j2) (C := rr_Bk) (T := tt_Bk) (N := 9) hx hb hts hin2 hown hK hP 4 kg_7_4 rfl 3 (by decide) lk11 (fun _ h9 => h9) rfl dd_Se_demeritsOf_50 ?_
    refine lv_iload_n hx hb dd_Se_demeritsOf_53 rfl (lv_at hl 4 rfl) ?_
    refine kx_iald (q0 := 5) (t0 := 0) hx hb dd_Se_demeritsOf_54 hK hP kg_7_5 rfl (by omega) (by omega) ?_
    refine lv_i2l hx hb dd_Se_demeritsOf_55 rfl ?_
    refine lv_lstore (lv' := [(7, .long ((bo y).toInt64)), (5, .long (pk_d0 (ru 2 + fb).toInt64)), (3, .long (((ru 2) + fb).toInt64)), (0, .ref h), (1, .int (nI x)), (2, .int (nI y))]) hx hb dd_Se_demeritsOf_56 hl (by decide) rfl (fun ls hl => ?_)
    refine lv_lload hx hb dd_Se_demeritsOf_58 (lv_at hl 0 rfl) ?_
    refine lv_lconst (v := 0) hx hb dd_Se_demeritsOf_60 (by decide) ?_
    refine W.lcmp hx hb dd_Se_demeritsOf_61 ?_
    refine lv_if_le (tgt := 78) hx hb dd_Se_demeritsOf_62 (by decide) (fun c62 => ?_) (fun c62 => ?_)
    · skip
      have c62 := (lg_cmp_le _ _).mp c62
      refine lv_lload hx hb dd_Se_demeritsOf_78 (lv_at hl 0 rfl) ?_
      refine lv_ldc2 (v := (-10000)) hx hb hown lk9 dd_Se_demeritsOf_80 ?_
      refine W.lcmp hx hb dd_Se_demeritsOf_83 ?_
      refine lv_if_le (tgt := 97) hx hb dd_Se_demeritsOf_84 (by decide) (fun c84 => ?_) (fun c84 => ?_)
      · skip
        have c84 := (lg_cmp_le _ _).mp c84
        refine lv_aload_n hx hb dd_Se_demeritsOf_97 rfl (lv_at hl 3 rfl) ?_
        refine va_get (D := D) (ci := 7) (v := .ref k) (C := rr_Se) (T := tt_Se) (N := 17) hx hb hts hin7 hown hK hP 0 kg_7_0 rfl 2 (by decide) lk10 (fun _ h9 => h9) rfl dd_Se_demeritsOf_98 ?_
        refine va_get (D := D) (ci := 2) (v := .ref j7) (C := rr_Bk) (T := tt_Bk) (N := 9) hx hb hts hin2 hown hK hP 4 kg_7_4 rfl 8 (by decide) lk13 (fun _ h9 => h9) rfl dd_Se_demeritsOf_101 ?_
        refine lv_iload_n hx hb dd_Se_demeritsOf_104 rfl (lv_at hl 4 rfl) ?_
        refine kx_zald (q0 := 6) (t0 := 2) hx hb dd_Se_demeritsOf_105 hK hP kg_7_6 rfl (by omega) (by omega) ?_
        refine lv_if_eq (tgt := 137) hx hb dd_Se_demeritsOf_106 (by decide) (fun c106 => ?_) (fun c106 => ?_)
        · skip
          refine lv_aload_n hx hb dd_Se_demeritsOf_137 rfl (lv_at hl 3 rfl) ?_
          refine va_get (D := D) (ci := 7) (v := .ref k) (C := rr_Se) (T := tt_Se) (N := 17) hx hb hts hin7 hown hK hP 0 kg_7_0 rfl 2 (by decide) lk10 (fun _ h9 => h9) rfl dd_Se_demeritsOf_138 ?_
          refine va_get (D := D) (ci := 2) (v := .ref j7) (C := rr_Bk) (T := tt_Bk) (N := 9) hx hb hts hin2 hown hK hP 4 kg_7_4 rfl 8 (by decide) lk13 (fun _ h9 => h9) rfl dd_Se_demeritsOf_141 ?_
          refine lv_iload_n hx hb dd_Se_demeritsOf_144 rfl (lv_at hl 4 rfl) ?_
          refine kx_zald (q0 := 6) (t0 := 2) hx hb dd_Se_demeritsOf_145 hK hP kg_7_6 rfl (by omega) (by omega) ?_
          refine lv_if_eq (tgt := 176) hx hb dd_Se_demeritsOf_146 (by decide) (fun c146 => ?_) (fun c146 => ?_)
          · skip
            refine lv_lload hx hb dd_Se_demeritsOf_176 (lv_at hl 1 rfl) ?_
            rw [hQ]
            exact kx_lret hx hb hr hlocks hK hN hS dd_Se_demeritsOf_178 () hP hD (by first | exact absurd c106 c146 | exact absurd c146 c106 | (unfold pk_dem pk_d3 pk_d2 pk_d1; rw [if_pos c62, if_pos c84, if_pos c106, if_pos c146]))
          · skip
            refine lv_iload_n hx hb dd_Se_demeritsOf_149 rfl (lv_at hl 5 rfl) ?_
            refine lv_aload_n hx hb dd_Se_demeritsOf_150 rfl (lv_at hl 3 rfl) ?_
            refine va_get (D := D) (ci := 7) (v := .ref k) (C := rr_Se) (T := tt_Se) (N := 17) hx hb hts hin7 hown hK hP 0 kg_7_0 rfl 2 (by decide) lk10 (fun _ h9 => h9) rfl dd_Se_demeritsOf_151 ?_
            refine va_get (D := D) (ci := 2) (v := .int (nI bn)) (C := rr_Bk) (T := tt_Bk) (N := 9) hx hb hts hin2 hown hK hP 4 kg_7_4 rfl 0 (by decide) lk14 (fun _ h9 => h9) rfl dd_Se_demeritsOf_154 ?_
            refine lv_icmp_ne (tgt := 176) hx hb dd_Se_demeritsOf_157 (by decide) (fun c157 => ?_) (fun c157 => ?_)
            · skip
              have c157 : ¬ (y = bn) := fun h => c157 ((nI_eq (by omega) (by omega)).mpr h)
              refine lv_lload hx hb dd_Se_demeritsOf_176 (lv_at hl 1 rfl) ?_
              rw [hQ]
              exact kx_lret hx hb hr hlocks hK hN hS dd_Se_demeritsOf_178 () hP hD (by first | exact absurd c106 c146 | exact absurd c146 c106 | (unfold pk_dem pk_d3 pk_d2 pk_d1; rw [if_pos c62, if_pos c84, if_pos c106, if_neg c146, if_neg c157]))
            · skip
              have c157 : y = bn := (nI_eq (by omega) (by omega)).mp c157
              refine lv_lload hx hb dd_Se_demeritsOf_160 (lv_at hl 1 rfl) ?_
              refine lv_aload_n hx hb dd_Se_demeritsOf_162 rfl (lv_at hl 3 rfl) ?_
              refine va_get (D := D) (ci := 7) (v := .ref g) (C := rr_Se) (T := tt_Se) (N := 17) hx hb hts hin7 hown hK hP 0 kg_7_0 rfl 0 (by decide) lk0 (fun _ h9 => h9) rfl dd_Se_demeritsOf_163 ?_
              refine va_get (D := D) (ci := 8) (v := .ref g0) (C := rr_Sg) (T := tt_Sg) (N := 5) hx hb hts hin8 hown hK hP 1 kg_7_1 rfl 0 (by decide) lk2 (fun _ h9 => h9) rfl dd_Se_demeritsOf_166 ?_
              refine lv_bipush (v := nI 7) hx hb dd_Se_demeritsOf_169 (by decide) ?_
              refine kx_iald (q0 := 2) (t0 := 0) hx hb dd_Se_demeritsOf_171 hK hP kg_7_2 rfl (by omega) (by omega) ?_
              refine lv_i2l hx hb dd_Se_demeritsOf_172 rfl ?_
              refine lv_ladd hx hb dd_Se_demeritsOf_173 ?_
              refine lv_lstore (lv' := [(5, .long ((pk_d0 (ru 2 + fb).toInt64) + ((ru 7).toInt64))), (7, .long ((bo y).toInt64)), (3, .long (((ru 2) + fb).toInt64)), (0, .ref h), (1, .int (nI x)), (2, .int (nI y))]) hx hb dd_Se_demeritsOf_174 hl (by decide) rfl (fun ls hl => ?_)
              refine lv_lload hx hb dd_Se_demeritsOf_176 (lv_at hl 0 rfl) ?_
              rw [hQ]
              exact kx_lret hx hb hr hlocks hK hN hS dd_Se_demeritsOf_178 () hP hD (by first | exact absurd c106 c146 | exact absurd c146 c106 | (unfold pk_dem pk_d3 pk_d2 pk_d1; rw [if_pos c62, if_pos c84, if_pos c106, if_neg c146, if_pos c157]))
        · skip
          refine lv_aload_n hx hb dd_Se_demeritsOf_109 rfl (lv_at hl 3 rfl) ?_
          refine va_get (D := D) (ci := 7) (v := .ref k) (C := rr_Se) (T := tt_Se) (N := 17) hx hb hts hin7 hown hK hP 0 kg_7_0 rfl 2 (by decide) lk10 (fun _ h9 => h9) rfl dd_Se_demeritsOf_110 ?_
          refine va_get (D := D) (ci := 2) (v := .ref j7) (C := rr_Bk) (T := tt_Bk) (N := 9) hx hb hts hin2 hown hK hP 4 kg_7_4 rfl 8 (by decide) lk13 (fun _ h9 => h9) rfl dd_Se_demeritsOf_113 ?_
          refine lv_iload_n hx hb dd_Se_demeritsOf_116 rfl (lv_at hl 5 rfl) ?_
          refine kx_zald (q0 := 6) (t0 := 2) hx hb dd_Se_demeritsOf_117 hK hP kg_7_6 rfl (by omega) (by omega) ?_
          refine lv_if_eq (tgt := 137) hx hb dd_Se_demeritsOf_118 (by decide) (fun c118 => ?_) (fun c118 => ?_)
          · skip
            refine lv_aload_n hx hb dd_Se_demeritsOf_137 rfl (lv_at hl 3 rfl) ?_
            refine va_get (D := D) (ci := 7) (v := .ref k) (C := rr_Se) (T := tt_Se) (N := 17) hx hb hts hin7 hown hK hP 0 kg_7_0 rfl 2 (by decide) lk10 (fun _ h9 => h9) rfl dd_Se_demeritsOf_138 ?_
            refine va_get (D := D) (ci := 2) (v := .ref j7) (C := rr_Bk) (T := tt_Bk) (N := 9) hx hb hts hin2 hown hK hP 4 kg_7_4 rfl 8 (by decide) lk13 (fun _ h9 => h9) rfl dd_Se_demeritsOf_141 ?_
            refine lv_iload_n hx hb dd_Se_demeritsOf_144 rfl (lv_at hl 4 rfl) ?_
            refine kx_zald (q0 := 6) (t0 := 2) hx hb dd_Se_demeritsOf_145 hK hP kg_7_6 rfl (by omega) (by omega) ?_
            refine lv_if_eq (tgt := 176) hx hb dd_Se_demeritsOf_146 (by decide) (fun c146 => ?_) (fun c146 => ?_)
            · skip
              refine lv_lload hx hb dd_Se_demeritsOf_176 (lv_at hl 1 rfl) ?_
              rw [hQ]
              exact kx_lret hx hb hr hlocks hK hN hS dd_Se_demeritsOf_178 () hP hD (by first | exact absurd c106 c146 | exact absurd c146 c106 | (unfold pk_dem pk_d3 pk_d2 pk_d1; rw [if_pos c62, if_pos c84, if_neg c106, if_pos c118, if_pos c146]))
            · skip
              refine lv_iload_n hx hb dd_Se_demeritsOf_149 rfl (lv_at hl 5 rfl) ?_
              refine lv_aload_n hx hb dd_Se_demeritsOf_150 rfl (lv_at hl 3 rfl) ?_
              refine va_get (D := D) (ci := 7) (v := .ref k) (C := rr_Se) (T := tt_Se) (N := 17) hx hb hts hin7 hown hK hP 0 kg_7_0 rfl 2 (by decide) lk10 (fun _ h9 => h9) rfl dd_Se_demeritsOf_151 ?_
              refine va_get (D := D) (ci := 2) (v := .int (nI bn)) (C := rr_Bk) (T := tt_Bk) (N := 9) hx hb hts hin2 hown hK hP 4 kg_7_4 rfl 0 (by decide) lk14 (fun _ h9 => h9) rfl dd_Se_demeritsOf_154 ?_
              refine lv_icmp_ne (tgt := 176) hx hb dd_Se_demeritsOf_157 (by decide) (fun c157 => ?_) (fun c157 => ?_)
              · skip
                have c157 : ¬ (y = bn) := fun h => c157 ((nI_eq (by omega) (by omega)).mpr h)
                refine lv_lload hx hb dd_Se_demeritsOf_176 (lv_at hl 1 rfl) ?_
                rw [hQ]
                exact kx_lret hx hb hr hlocks hK hN hS dd_Se_demeritsOf_178 () hP hD (by first | exact absurd c106 c146 | exact absurd c146 c106 | (unfold pk_dem pk_d3 pk_d2 pk_d1; rw [if_pos c62, if_pos c84, if_neg c106, if_pos c118, if_neg c146, if_neg c157]))
              · skip
                have c157 : y = bn := (nI_eq (by omega) (by omega)).mp c157
                refine lv_lload hx hb dd_Se_demeritsOf_160 (lv_at hl 1 rfl) ?_
                refine lv_aload_n hx hb dd_Se_demeritsOf_162 rfl (lv_at hl 3 rfl) ?_
                refine va_get (D := D) (ci := 7) (v := .ref g) (C := rr_Se) (T := tt_Se) (N := 17) hx hb hts hin7 hown hK hP 0 kg_7_0 rfl 0 (by decide) lk0 (fun _ h9 => h9) rfl dd_Se_demeritsOf_163 ?_
                refine va_get (D := D) (ci := 8) (v := .ref g0) (C := rr_Sg) (T := tt_Sg) (N := 5) hx hb hts hin8 hown hK hP 1 kg_7_1 rfl 0 (by decide) lk2 (fun _ h9 => h9) rfl dd_Se_demeritsOf_166 ?_
                refine lv_bipush (v := nI 7) hx hb dd_Se_demeritsOf_169 (by decide) ?_
                refine kx_iald (q0 := 2) (t0 := 0) hx hb dd_Se_demeritsOf_171 hK hP kg_7_2 rfl (by omega) (by omega) ?_
                refine lv_i2l hx hb dd_Se_demeritsOf_172 rfl ?_
                refine lv_ladd hx hb dd_Se_demeritsOf_173 ?_
                refine lv_lstore (lv' := [(5, .long ((pk_d0 (ru 2 + fb).toInt64) + ((ru 7).toInt64))), (7, .long ((bo y).toInt64)), (3, .long (((ru 2) + fb).toInt64)), (0, .ref h), (1, .int (nI x)), (2, .int (nI y))]) hx hb dd_Se_demeritsOf_174 hl (by decide) rfl (fun ls hl => ?_)
                refine lv_lload hx hb dd_Se_demeritsOf_176 (lv_at hl 0 rfl) ?_
                rw [hQ]
                exact kx_lret hx hb hr hlocks hK hN hS dd_Se_demeritsOf_178 () hP hD (by first | exact absurd c106 c146 | exact absurd c146 c106 | (unfold pk_dem pk_d3 pk_d2 pk_d1; rw [if_pos c62, if_pos c84, if_neg c106, if_pos c118, if_neg c146, if_pos c157]))
          · skip
            refine lv_lload hx hb dd_Se_demeritsOf_121 (lv_at hl 1 rfl) ?_
            refine lv_aload_n hx hb dd_Se_demeritsOf_123 rfl (lv_at hl 3 rfl) ?_
            refine va_get (D := D) (ci := 7) (v := .ref g) (C := rr_Se) (T := tt_Se) (N := 17) hx hb hts hin7 hown hK hP 0 kg_7_0 rfl 0 (by decide) lk0 (fun _ h9 => h9) rfl dd_Se_demeritsOf_124 ?_
            refine va_get (D := D) (ci := 8) (v := .ref g0) (C := rr_Sg) (T := tt_Sg) (N := 5) hx hb hts hin8 hown hK hP 1 kg_7_1 rfl 0 (by decide) lk2 (fun _ h9 => h9) rfl dd_Se_demeritsOf_127 ?_
            refine lv_bipush (v := nI 6) hx hb dd_Se_demeritsOf_130 (by decide) ?_
            refine kx_iald (q0 := 2) (t0 := 0) hx hb dd_Se_demeritsOf_132 hK hP kg_7_2 rfl (by omega) (by omega) ?_
            refine lv_i2l hx hb dd_Se_demeritsOf_133 rfl ?_
            refine lv_ladd hx hb dd_Se_demeritsOf_134 ?_
            refine lv_lstore (lv' := [(5, .long ((pk_d0 (ru 2 + fb).toInt64) + ((ru 6).toInt64))), (7, .long ((bo y).toInt64)), (3, .long (((ru 2) + fb).toInt64)), (0, .ref h), (1, .int (nI x)), (2, .int (nI y))]) hx hb dd_Se_demeritsOf_135 hl (by decide) rfl (fun ls hl => ?_)
            refine lv_aload_n hx hb dd_Se_demeritsOf_137 rfl (lv_at hl 3 rfl) ?_
            refine va_get (D := D) (ci := 7) (v := .ref k) (C := rr_Se) (T := tt_Se) (N := 17) hx hb hts hin7 hown hK hP 0 kg_7_0 rfl 2 (by decide) lk10 (fun _ h9 => h9) rfl dd_Se_demeritsOf_138 ?_
            refine va_get (D := D) (ci := 2) (v := .ref j7) (C := rr_Bk) (T := tt_Bk) (N := 9) hx hb hts hin2 hown hK hP 4 kg_7_4 rfl 8 (by decide) lk13 (fun _ h9 => h9) rfl dd_Se_demeritsOf_141 ?_
            refine lv_iload_n hx hb dd_Se_demeritsOf_144 rfl (lv_at hl 4 rfl) ?_
            refine kx_zald (q0 := 6) (t0 := 2) hx hb dd_Se_demeritsOf_145 hK hP kg_7_6 rfl (by omega) (by omega) ?_
            refine lv_if_eq (tgt := 176) hx hb dd_Se_demeritsOf_146 (by decide) (fun c146 => ?_) (fun c146 => ?_)
            · skip
              refine lv_lload hx hb dd_Se_demeritsOf_176 (lv_at hl 0 rfl) ?_
              rw [hQ]
              exact kx_lret hx hb hr hlocks hK hN hS dd_Se_demeritsOf_178 () hP hD (by first | exact absurd c106 c146 | exact absurd c146 c106 | (unfold pk_dem pk_d3 pk_d2 pk_d1; rw [if_pos c62, if_pos c84, if_neg c106, if_neg c118, if_pos c146]))
            · skip
              refine lv_iload_n hx hb dd_Se_demeritsOf_149 rfl (lv_at hl 5 rfl) ?_
              refine lv_aload_n hx hb dd_Se_demeritsOf_150 rfl (lv_at hl 3 rfl) ?_
              refine va_get (D := D) (ci := 7) (v := .ref k) (C := rr_Se) (T := tt_Se) (N := 17) hx hb hts hin7 hown hK hP 0 kg_7_0 rfl 2 (by decide) lk10 (fun _ h9 => h9) rfl dd_Se_demeritsOf_151 ?_
              refine va_get (D := D) (ci := 2) (v := .int (nI bn)) (C := rr_Bk) (T := tt_Bk) (N := 9) hx hb hts hin2 hown hK hP 4 kg_7_4 rfl 0 (by decide) lk14 (fun _ h9 => h9) rfl dd_Se_demeritsOf_154 ?_
              refine lv_icmp_ne (tgt := 176) hx hb dd_Se_demeritsOf_157 (by decide) (fun c157 => ?_) (fun c157 => ?_)
              · skip
                have c157 : ¬ (y = bn) := fun h => c157 ((nI_eq (by omega) (by omega)).mpr h)
                refine lv_lload hx hb dd_Se_demeritsOf_176 (lv_at hl 0 rfl) ?_
                rw [hQ]
                exact kx_lret hx hb hr hlocks hK hN hS dd_Se_demeritsOf_178 () hP hD (by first | exact absurd c106 c146 | exact absurd c146 c106 | (unfold pk_dem pk_d3 pk_d2 pk_d1; rw [if_pos c62, if_pos c84, if_neg c106, if_neg c118, if_neg c146, if_neg c157]))
              · skip
                have c157 : y = bn := (nI_eq (by omega) (by omega)).mp c157
                refine lv_lload hx hb dd_Se_demeritsOf_160 (lv_at hl 0 rfl) ?_
                refine lv_aload_n hx hb dd_Se_demeritsOf_162 rfl (lv_at hl 3 rfl) ?_
                refine va_get (D := D) (ci := 7) (v := .ref g) (C := rr_Se) (T := tt_Se) (N := 17) hx hb hts hin7 hown hK hP 0 kg_7_0 rfl 0 (by decide) lk0 (fun _ h9 => h9) rfl dd_Se_demeritsOf_163 ?_
                refine va_get (D := D) (ci := 8) (v := .ref g0) (C := rr_Sg) (T := tt_Sg) (N := 5) hx hb hts hin8 hown hK hP 1 kg_7_1 rfl 0 (by decide) lk2 (fun _ h9 => h9) rfl dd_Se_demeritsOf_166 ?_
                refine lv_bipush (v := nI 7) hx hb dd_Se_demeritsOf_169 (by decide) ?_
                refine kx_iald (q0 := 2) (t0 := 0) hx hb dd_Se_demeritsOf_171 hK hP kg_7_2 rfl (by omega) (by omega) ?_
                refine lv_i2l hx hb dd_Se_demeritsOf_172 rfl ?_
                refine lv_ladd hx hb dd_Se_demeritsOf_173 ?_
                refine lv_lstore (lv' := [(5, .long (((pk_d0 (ru 2 + fb).toInt64) + ((ru 6).toInt64)) + ((ru 7).toInt64))), (7, .long ((bo y).toInt64)), (3, .long (((ru 2) + fb).toInt64)), (0, .ref h), (1, .int (nI x)), (2, .int (nI y))]) hx hb dd_Se_demeritsOf_174 hl (by decide) rfl (fun ls hl => ?_)
                refine lv_lload hx hb dd_Se_demeritsOf_176 (lv_at hl 0 rfl) ?_
                rw [hQ]
                exact kx_lret hx hb hr hlocks hK hN hS dd_Se_demeritsOf_178 () hP hD (by first | exact absurd c106 c146 | exact absurd c146 c106 | (unfold pk_dem pk_d3 pk_d2 pk_d1; rw [if_pos c62, if_pos c84, if_neg c106, if_neg c118, if_neg c146, if_pos c157]))
      · skip
        have c84 : ¬ (((bo y).toInt64) ≤ (-10000 : Int64)) := fun h => c84 ((lg_cmp_le _ _).mpr h)
        refine lv_lload hx hb dd_Se_demeritsOf_87 (lv_at hl 1 rfl) ?_
        refine lv_lload hx hb dd_Se_demeritsOf_89 (lv_at hl 0 rfl) ?_
        refine lv_lload hx hb dd_Se_demeritsOf_91 (lv_at hl 0 rfl) ?_
        refine lv_lmul hx hb dd_Se_demeritsOf_93 ?_
        refine lv_lsub hx hb dd_Se_demeritsOf_94 ?_
        refine lv_lstore (lv' := [(5, .long ((pk_d0 (ru 2 + fb).toInt64) - (((bo y).toInt64) * ((bo y).toInt64)))), (7, .long ((bo y).toInt64)), (3, .long (((ru 2) + fb).toInt64)), (0, .ref h), (1, .int (nI x)), (2, .int (nI y))]) hx hb dd_Se_demeritsOf_95 hl (by decide) rfl (fun ls hl => ?_)
        refine lv_aload_n hx hb dd_Se_demeritsOf_97 rfl (lv_at hl 3 rfl) ?_
        refine va_get (D := D) (ci := 7) (v := .ref k) (C := rr_Se) (T := tt_Se) (N := 17) hx hb hts hin7 hown hK hP 0 kg_7_0 rfl 2 (by decide) lk10 (fun _ h9 => h9) rfl dd_Se_demeritsOf_98 ?_
        refine va_get (D := D) (ci := 2) (v := .ref j7) (C := rr_Bk) (T := tt_Bk) (N := 9) hx hb hts hin2 hown hK hP 4 kg_7_4 rfl 8 (by decide) lk13 (fun _ h9 => h9) rfl dd_Se_demeritsOf_101 ?_
        refine lv_iload_n hx hb dd_Se_demeritsOf_104 rfl (lv_at hl 4 rfl) ?_
        refine kx_zald (q0 := 6) (t0 := 2) hx hb dd_Se_demeritsOf_105 hK hP kg_7_6 rfl (by omega) (by omega) ?_
        refine lv_if_eq (tgt := 137) hx hb dd_Se_demeritsOf_106 (by decide) (fun c106 => ?_) (fun c106 => ?_)
        · skip
          refine lv_aload_n hx hb dd_Se_demeritsOf_137 rfl (lv_at hl 3 rfl) ?_
          refine va_get (D := D) (ci := 7) (v := .ref k) (C := rr_Se) (T := tt_Se) (N := 17) hx hb hts hin7 hown hK hP 0 kg_7_0 rfl 2 (by decide) lk10 (fun _ h9 => h9) rfl dd_Se_demeritsOf_138 ?_
          refine va_get (D := D) (ci := 2) (v := .ref j7) (C := rr_Bk) (T := tt_Bk) (N := 9) hx hb hts hin2 hown hK hP 4 kg_7_4 rfl 8 (by decide) lk13 (fun _ h9 => h9) rfl dd_Se_demeritsOf_141 ?_
          refine lv_iload_n hx hb dd_Se_demeritsOf_144 rfl (lv_at hl 4 rfl) ?_
          refine kx_zald (q0 := 6) (t0 := 2) hx hb dd_Se_demeritsOf_145 hK hP kg_7_6 rfl (by omega) (by omega) ?_
          refine lv_if_eq (tgt := 176) hx hb dd_Se_demeritsOf_146 (by decide) (fun c146 => ?_) (fun c146 => ?_)
          · skip
            refine lv_lload hx hb dd_Se_demeritsOf_176 (lv_at hl 0 rfl) ?_
            rw [hQ]
            exact kx_lret hx hb hr hlocks hK hN hS dd_Se_demeritsOf_178 () hP hD (by first | exact absurd c106 c146 | exact absurd c146 c106 | (unfold pk_dem pk_d3 pk_d2 pk_d1; rw [if_pos c62, if_neg c84, if_pos c106, if_pos c146]))
          · skip
            refine lv_iload_n hx hb dd_Se_demeritsOf_149 rfl (lv_at hl 5 rfl) ?_
            refine lv_aload_n hx hb dd_Se_demeritsOf_150 rfl (lv_at hl 3 rfl) ?_
            refine va_get (D := D) (ci := 7) (v := .ref k) (C := rr_Se) (T := tt_Se) (N := 17) hx hb hts hin7 hown hK hP 0 kg_7_0 rfl 2 (by decide) lk10 (fun _ h9 => h9) rfl dd_Se_demeritsOf_151 ?_
            refine va_get (D := D) (ci := 2) (v := .int (nI bn)) (C := rr_Bk) (T := tt_Bk) (N := 9) hx hb hts hin2 hown hK hP 4 kg_7_4 rfl 0 (by decide) lk14 (fun _ h9 => h9) rfl dd_Se_demeritsOf_154 ?_
            refine lv_icmp_ne (tgt := 176) hx hb dd_Se_demeritsOf_157 (by decide) (fun c157 => ?_) (fun c157 => ?_)
            · skip
              have c157 : ¬ (y = bn) := fun h => c157 ((nI_eq (by omega) (by omega)).mpr h)
              refine lv_lload hx hb dd_Se_demeritsOf_176 (lv_at hl 0 rfl) ?_
              rw [hQ]
              exact kx_lret hx hb hr hlocks hK hN hS dd_Se_demeritsOf_178 () hP hD (by first | exact absurd c106 c146 | exact absurd c146 c106 | (unfold pk_dem pk_d3 pk_d2 pk_d1; rw [if_pos c62, if_neg c84, if_pos c106, if_neg c146, if_neg c157]))
            · skip
              have c157 : y = bn := (nI_eq (by omega) (by omega)).mp c157
              refine lv_lload hx hb dd_Se_demeritsOf_160 (lv_at hl 0 rfl) ?_
              refine lv_aload_n hx hb dd_Se_demeritsOf_162 rfl (lv_at hl 3 rfl) ?_
              refine va_get (D := D) (ci := 7) (v := .ref g) (C := rr_Se) (T := tt_Se) (N := 17) hx hb hts hin7 hown hK hP 0 kg_7_0 rfl 0 (by decide) lk0 (fun _ h9 => h9) rfl dd_Se_demeritsOf_163 ?_
              refine va_get (D := D) (ci := 8) (v := .ref g0) (C := rr_Sg) (T := tt_Sg) (N := 5) hx hb hts hin8 hown hK hP 1 kg_7_1 rfl 0 (by decide) lk2 (fun _ h9 => h9) rfl dd_Se_demeritsOf_166 ?_
              refine lv_bipush (v := nI 7) hx hb dd_Se_demeritsOf_169 (by decide) ?_
              refine kx_iald (q0 := 2) (t0 := 0) hx hb dd_Se_demeritsOf_171 hK hP kg_7_2 rfl (by omega) (by omega) ?_
              refine lv_i2l hx hb dd_Se_demeritsOf_172 rfl ?_
              refine lv_ladd hx hb dd_Se_demeritsOf_173 ?_
              refine lv_lstore (lv' := [(5, .long (((pk_d0 (ru 2 + fb).toInt64) - (((bo y).toInt64) * ((bo y).toInt64))) + ((ru 7).toInt64))), (7, .long ((bo y).toInt64)), (3, .long (((ru 2) + fb).toInt64)), (0, .ref h), (1, .int (nI x)), (2, .int (nI y))]) hx hb dd_Se_demeritsOf_174 hl (by decide) rfl (fun ls hl => ?_)
              refine lv_lload hx hb dd_Se_demeritsOf_176 (lv_at hl 0 rfl) ?_
              rw [hQ]
              exact kx_lret hx hb hr hlocks hK hN hS dd_Se_demeritsOf_178 () hP hD (by first | exact absurd c106 c146 | exact absurd c146 c106 | (unfold pk_dem pk_d3 pk_d2 pk_d1; rw [if_pos c62, if_neg c84, if_pos c106, if_neg c146, if_pos c157]))
        · skip
          refine lv_aload_n hx hb dd_Se_demeritsOf_109 rfl (lv_at hl 3 rfl) ?_
          refine va_get (D := D) (ci := 7) (v := .ref k) (C := rr_Se) (T := tt_Se) (N := 17) hx hb hts hin7 hown hK hP 0 kg_7_0 rfl 2 (by decide) lk10 (fun _ h9 => h9) rfl dd_Se_demeritsOf_110 ?_
          refine va_get (D := D) (ci := 2) (v := .ref j7) (C := rr_Bk) (T := tt_Bk) (N := 9) hx hb hts hin2 hown hK hP 4 kg_7_4 rfl 8 (by decide) lk13 (fun _ h9 => h9) rfl dd_Se_demeritsOf_113 ?_
          refine lv_iload_n hx hb dd_Se_demeritsOf_116 rfl (lv_at hl 5 rfl) ?_
          refine kx_zald (q0 := 6) (t0 := 2) hx hb dd_Se_demeritsOf_117 hK hP kg_7_6 rfl (by omega) (by omega) ?_
          refine lv_if_eq (tgt := 137) hx hb dd_Se_demeritsOf_118 (by decide) (fun c118 => ?_) (fun c118 => ?_)
          · skip
            refine lv_aload_n hx hb dd_Se_demeritsOf_137 rfl (lv_at hl 3 rfl) ?_
            refine va_get (D := D) (ci := 7) (v := .ref k) (C := rr_Se) (T := tt_Se) (N := 17) hx hb hts hin7 hown hK hP 0 kg_7_0 rfl 2 (by decide) lk10 (fun _ h9 => h9) rfl dd_Se_demeritsOf_138 ?_
            refine va_get (D := D) (ci := 2) (v := .ref j7) (C := rr_Bk) (T := tt_Bk) (N := 9) hx hb hts hin2 hown hK hP 4 kg_7_4 rfl 8 (by decide) lk13 (fun _ h9 => h9) rfl dd_Se_demeritsOf_141 ?_
            refine lv_iload_n hx hb dd_Se_demeritsOf_144 rfl (lv_at hl 4 rfl) ?_
            refine kx_zald (q0 := 6) (t0 := 2) hx hb dd_Se_demeritsOf_145 hK hP kg_7_6 rfl (by omega) (by omega) ?_
            refine lv_if_eq (tgt := 176) hx hb dd_Se_demeritsOf_146 (by decide) (fun c146 => ?_) (fun c146 => ?_)
            · skip
              refine lv_lload hx hb dd_Se_demeritsOf_176 (lv_at hl 0 rfl) ?_
              rw [hQ]
              exact kx_lret hx hb hr hlocks hK hN hS dd_Se_demeritsOf_178 () hP hD (by first | exact absurd c106 c146 | exact absurd c146 c106 | (unfold pk_dem pk_d3 pk_d2 pk_d1; rw [if_pos c62, if_neg c84, if_neg c106, if_pos c118, if_pos c146]))
            · skip
              refine lv_iload_n hx hb dd_Se_demeritsOf_149 rfl (lv_at hl 5 rfl) ?_
              refine lv_aload_n hx hb dd_Se_demeritsOf_150 rfl (lv_at hl 3 rfl) ?_
              refine va_get (D := D) (ci := 7) (v := .ref k) (C := rr_Se) (T := tt_Se) (N := 17) hx hb hts hin7 hown hK hP 0 kg_7_0 rfl 2 (by decide) lk10 (fun _ h9 => h9) rfl dd_Se_demeritsOf_151 ?_
              refine va_get (D := D) (ci := 2) (v := .int (nI bn)) (C := rr_Bk) (T := tt_Bk) (N := 9) hx hb hts hin2 hown hK hP 4 kg_7_4 rfl 0 (by decide) lk14 (fun _ h9 => h9) rfl dd_Se_demeritsOf_154 ?_
              refine lv_icmp_ne (tgt := 176) hx hb dd_Se_demeritsOf_157 (by decide) (fun c157 => ?_) (fun c157 => ?_)
              · skip
                have c157 : ¬ (y = bn) := fun h => c157 ((nI_eq (by omega) (by omega)).mpr h)
                refine lv_lload hx hb dd_Se_demeritsOf_176 (lv_at hl 0 rfl) ?_
                rw [hQ]
                exact kx_lret hx hb hr hlocks hK hN hS dd_Se_demeritsOf_178 () hP hD (by first | exact absurd c106 c146 | exact absurd c146 c106 | (unfold pk_dem pk_d3 pk_d2 pk_d1; rw [if_pos c62, if_neg c84, if_neg c106, if_pos c118, if_neg c146, if_neg c157]))
              · skip
                have c157 : y = bn := (nI_eq (by omega) (by omega)).mp c157
                refine lv_lload hx hb dd_Se_demeritsOf_160 (lv_at hl 0 rfl) ?_
                refine lv_aload_n hx hb dd_Se_demeritsOf_162 rfl (lv_at hl 3 rfl) ?_
                refine va_get (D := D) (ci := 7) (v := .ref g) (C := rr_Se) (T := tt_Se) (N := 17) hx hb hts hin7 hown hK hP 0 kg_7_0 rfl 0 (by decide) lk0 (fun _ h9 => h9) rfl dd_Se_demeritsOf_163 ?_
                refine va_get (D := D) (ci := 8) (v := .ref g0) (C := rr_Sg) (T := tt_Sg) (N := 5) hx hb hts hin8 hown hK hP 1 kg_7_1 rfl 0 (by decide) lk2 (fun _ h9 => h9) rfl dd_Se_demeritsOf_166 ?_
                refine lv_bipush (v := nI 7) hx hb dd_Se_demeritsOf_169 (by decide) ?_
                refine kx_iald (q0 := 2) (t0 := 0) hx hb dd_Se_demeritsOf_171 hK hP kg_7_2 rfl (by omega) (by omega) ?_
                refine lv_i2l hx hb dd_Se_demeritsOf_172 rfl ?_
                refine lv_ladd hx hb dd_Se_demeritsOf_173 ?_
                refine lv_lstore (lv' := [(5, .long (((pk_d0 (ru 2 + fb).toInt64) - (((bo y).toInt64) * ((bo y).toInt64))) + ((ru 7).toInt64))), (7, .long ((bo y).toInt64)), (3, .long (((ru 2) + fb).toInt64)), (0, .ref h), (1, .int (nI x)), (2, .int (nI y))]) hx hb dd_Se_demeritsOf_174 hl (by decide) rfl (fun ls hl => ?_)
                refine lv_lload hx hb dd_Se_demeritsOf_176 (lv_at hl 0 rfl) ?_
                rw [hQ]
                exact kx_lret hx hb hr hlocks hK hN hS dd_Se_demeritsOf_178 () hP hD (by first | exact absurd c106 c146 | exact absurd c146 c106 | (unfold pk_dem pk_d3 pk_d2 pk_d1; rw [if_pos c62, if_neg c84, if_neg c106, if_pos c118, if_neg c146, if_pos c157]))
          · skip
            refine lv_lload hx hb dd_Se_demeritsOf_121 (lv_at hl 0 rfl) ?_
            refine lv_aload_n hx hb dd_Se_demeritsOf_123 rfl (lv_at hl 3 rfl) ?_
            refine va_get (D := D) (ci := 7) (v := .ref g) (C := rr_Se) (T := tt_Se) (N := 17) hx hb hts hin7 hown hK hP 0 kg_7_0 rfl 0 (by decide) lk0 (fun _ h9 => h9) rfl dd_Se_demeritsOf_124 ?_
            refine va_get (D := D) (ci := 8) (v := .ref g0) (C := rr_Sg) (T := tt_Sg) (N := 5) hx hb hts hin8 hown hK hP 1 kg_7_1 rfl 0 (by decide) lk2 (fun _ h9 => h9) rfl dd_Se_demeritsOf_127 ?_
            refine lv_bipush (v := nI 6) hx hb dd_Se_demeritsOf_130 (by decide) ?_
            refine kx_iald (q0 := 2) (t0 := 0) hx hb dd_Se_demeritsOf_132 hK hP kg_7_2 rfl (by omega) (by omega) ?_
            refine lv_i2l hx hb dd_Se_demeritsOf_133 rfl ?_
            refine lv_ladd hx hb dd_Se_demeritsOf_134 ?_
            refine lv_lstore (lv' := [(5, .long (((pk_d0 (ru 2 + fb).toInt64) - (((bo y).toInt64) * ((bo y).toInt64))) + ((ru 6).toInt64))), (7, .long ((bo y).toInt64)), (3, .long (((ru 2) + fb).toInt64)), (0, .ref h), (1, .int (nI x)), (2, .int (nI y))]) hx hb dd_Se_demeritsOf_135 hl (by decide) rfl (fun ls hl => ?_)
            refine lv_aload_n hx hb dd_Se_demeritsOf_137 rfl (lv_at hl 3 rfl) ?_
            refine va_get (D := D) (ci := 7) (v := .ref k) (C := rr_Se) (T := tt_Se) (N := 17) hx hb hts hin7 hown hK hP 0 kg_7_0 rfl 2 (by decide) lk10 (fun _ h9 => h9) rfl dd_Se_demeritsOf_138 ?_
            refine va_get (D := D) (ci := 2) (v := .ref j7) (C := rr_Bk) (T := tt_Bk) (N := 9) hx hb hts hin2 hown hK hP 4 kg_7_4 rfl 8 (by decide) lk13 (fun _ h9 => h9) rfl dd_Se_demeritsOf_141 ?_
            refine lv_iload_n hx hb dd_Se_demeritsOf_144 rfl (lv_at hl 4 rfl) ?_
            refine kx_zald (q0 := 6) (t0 := 2) hx hb dd_Se_demeritsOf_145 hK hP kg_7_6 rfl (by omega) (by omega) ?_
            refine lv_if_eq (tgt := 176) hx hb dd_Se_demeritsOf_146 (by decide) (fun c146 => ?_) (fun c146 => ?_)
            · skip
              refine lv_lload hx hb dd_Se_demeritsOf_176 (lv_at hl 0 rfl) ?_
              rw [hQ]
              exact kx_lret hx hb hr hlocks hK hN hS dd_Se_demeritsOf_178 () hP hD (by first | exact absurd c106 c146 | exact absurd c146 c106 | (unfold pk_dem pk_d3 pk_d2 pk_d1; rw [if_pos c62, if_neg c84, if_neg c106, if_neg c118, if_pos c146]))
            · skip
              refine lv_iload_n hx hb dd_Se_demeritsOf_149 rfl (lv_at hl 5 rfl) ?_
              refine lv_aload_n hx hb dd_Se_demeritsOf_150 rfl (lv_at hl 3 rfl) ?_
              refine va_get (D := D) (ci := 7) (v := .ref k) (C := rr_Se) (T := tt_Se) (N := 17) hx hb hts hin7 hown hK hP 0 kg_7_0 rfl 2 (by decide) lk10 (fun _ h9 => h9) rfl dd_Se_demeritsOf_151 ?_
              refine va_get (D := D) (ci := 2) (v := .int (nI bn)) (C := rr_Bk) (T := tt_Bk) (N := 9) hx hb hts hin2 hown hK hP 4 kg_7_4 rfl 0 (by decide) lk14 (fun _ h9 => h9) rfl dd_Se_demeritsOf_154 ?_
              refine lv_icmp_ne (tgt := 176) hx hb dd_Se_demeritsOf_157 (by decide) (fun c157 => ?_) (fun c157 => ?_)
              · skip
                have c157 : ¬ (y = bn) := fun h => c157 ((nI_eq (by omega) (by omega)).mpr h)
                refine lv_lload hx hb dd_Se_demeritsOf_176 (lv_at hl 0 rfl) ?_
                rw [hQ]
                exact kx_lret hx hb hr hlocks hK hN hS dd_Se_demeritsOf_178 () hP hD (by first | exact absurd c106 c146 | exact absurd c146 c106 | (unfold pk_dem pk_d3 pk_d2 pk_d1; rw [if_pos c62, if_neg c84, if_neg c106, if_neg c118, if_neg c146, if_neg c157]))
              · skip
                have c157 : y = bn := (nI_eq (by omega) (by omega)).mp c157
                refine lv_lload hx hb dd_Se_demeritsOf_160 (lv_at hl 0 rfl) ?_
                refine lv_aload_n hx hb dd_Se_demeritsOf_162 rfl (lv_at hl 3 rfl) ?_
                refine va_get (D := D) (ci := 7) (v := .ref g) (C := rr_Se) (T := tt_Se) (N := 17) hx hb hts hin7 hown hK hP 0 kg_7_0 rfl 0 (by decide) lk0 (fun _ h9 => h9) rfl dd_Se_demeritsOf_163 ?_
                refine va_get (D := D) (ci := 8) (v := .ref g0) (C := rr_Sg) (T := tt_Sg) (N := 5) hx hb hts hin8 hown hK hP 1 kg_7_1 rfl 0 (by decide) lk2 (fun _ h9 => h9) rfl dd_Se_demeritsOf_166 ?_
                refine lv_bipush (v := nI 7) hx hb dd_Se_demeritsOf_169 (by decide) ?_
                refine kx_iald (q0 := 2) (t0 := 0) hx hb dd_Se_demeritsOf_171 hK hP kg_7_2 rfl (by omega) (by omega) ?_
                refine lv_i2l hx hb dd_Se_demeritsOf_172 rfl ?_
                refine lv_ladd hx hb dd_Se_demeritsOf_173 ?_
                refine lv_lstore (lv' := [(5, .long ((((pk_d0 (ru 2 + fb).toInt64) - (((bo y).toInt64) * ((bo y).toInt64))) + ((ru 6).toInt64)) + ((ru 7).toInt64))), (7, .long ((bo y).toInt64)), (3, .long (((ru 2) + fb).toInt64)), (0, .ref h), (1, .int (nI x)), (2, .int (nI y))]) hx hb dd_Se_demeritsOf_174 hl (by decide) rfl (fun ls hl => ?_)
                refine lv_lload hx hb dd_Se_demeritsOf_176 (lv_at hl 0 rfl) ?_
                rw [hQ]
                exact kx_lret hx hb hr hlocks hK hN hS dd_Se_demeritsOf_178 () hP hD (by first | exact absurd c106 c146 | exact absurd c146 c106 | (unfold pk_dem pk_d3 pk_d2 pk_d1; rw [if_pos c62, if_neg c84, if_neg c106, if_neg c118, if_neg c146, if_pos c157]))
    · skip
      have c62 : ¬ (((bo y).toInt64) ≤ (0 : Int64)) := fun h => c62 ((lg_cmp_le _ _).mpr h)
      refine lv_lload hx hb dd_Se_demeritsOf_65 (lv_at hl 1 rfl) ?_
      refine lv_lload hx hb dd_Se_demeritsOf_67 (lv_at hl 0 rfl) ?_
      refine lv_lload hx hb dd_Se_demeritsOf_69 (lv_at hl 0 rfl) ?_
      refine lv_lmul hx hb dd_Se_demeritsOf_71 ?_
      refine lv_ladd hx hb dd_Se_demeritsOf_72 ?_
      refine lv_lstore (lv' := [(5, .long ((pk_d0 (ru 2 + fb).toInt64) + (((bo y).toInt64) * ((bo y).toInt64)))), (7, .long ((bo y).toInt64)), (3, .long (((ru 2) + fb).toInt64)), (0, .ref h), (1, .int (nI x)), (2, .int (nI y))]) hx hb dd_Se_demeritsOf_73 hl (by decide) rfl (fun ls hl => ?_)
      refine lv_goto (tgt := 97) hx hb dd_Se_demeritsOf_75 (by decide) ?_
      refine lv_aload_n hx hb dd_Se_demeritsOf_97 rfl (lv_at hl 3 rfl) ?_
      refine va_get (D := D) (ci := 7) (v := .ref k) (C := rr_Se) (T := tt_Se) (N := 17) hx hb hts hin7 hown hK hP 0 kg_7_0 rfl 2 (by decide) lk10 (fun _ h9 => h9) rfl dd_Se_demeritsOf_98 ?_
      refine va_get (D := D) (ci := 2) (v := .ref j7) (C := rr_Bk) (T := tt_Bk) (N := 9) hx hb hts hin2 hown hK hP 4 kg_7_4 rfl 8 (by decide) lk13 (fun _ h9 => h9) rfl dd_Se_demeritsOf_101 ?_
      refine lv_iload_n hx hb dd_Se_demeritsOf_104 rfl (lv_at hl 4 rfl) ?_
      refine kx_zald (q0 := 6) (t0 := 2) hx hb dd_Se_demeritsOf_105 hK hP kg_7_6 rfl (by omega) (by omega) ?_
      refine lv_if_eq (tgt := 137) hx hb dd_Se_demeritsOf_106 (by decide) (fun c106 => ?_) (fun c106 => ?_)
      · skip
        refine lv_aload_n hx hb dd_Se_demeritsOf_137 rfl (lv_at hl 3 rfl) ?_
        refine va_get (D := D) (ci := 7) (v := .ref k) (C := rr_Se) (T := tt_Se) (N := 17) hx hb hts hin7 hown hK hP 0 kg_7_0 rfl 2 (by decide) lk10 (fun _ h9 => h9) rfl dd_Se_demeritsOf_138 ?_
        refine va_get (D := D) (ci := 2) (v := .ref j7) (C := rr_Bk) (T := tt_Bk) (N := 9) hx hb hts hin2 hown hK hP 4 kg_7_4 rfl 8 (by decide) lk13 (fun _ h9 => h9) rfl dd_Se_demeritsOf_141 ?_
        refine lv_iload_n hx hb dd_Se_demeritsOf_144 rfl (lv_at hl 4 rfl) ?_
        refine kx_zald (q0 := 6) (t0 := 2) hx hb dd_Se_demeritsOf_145 hK hP kg_7_6 rfl (by omega) (by omega) ?_
        refine lv_if_eq (tgt := 176) hx hb dd_Se_demeritsOf_146 (by decide) (fun c146 => ?_) (fun c146 => ?_)
        · skip
          refine lv_lload hx hb dd_Se_demeritsOf_176 (lv_at hl 0 rfl) ?_
          rw [hQ]
          exact kx_lret hx hb hr hlocks hK hN hS dd_Se_demeritsOf_178 () hP hD (by first | exact absurd c106 c146 | exact absurd c146 c106 | (unfold pk_dem pk_d3 pk_d2 pk_d1; rw [if_neg c62, if_pos c106, if_pos c146]))
        · skip
          refine lv_iload_n hx hb dd_Se_demeritsOf_149 rfl (lv_at hl 5 rfl) ?_
          refine lv_aload_n hx hb dd_Se_demeritsOf_150 rfl (lv_at hl 3 rfl) ?_
          refine va_get (D := D) (ci := 7) (v := .ref k) (C := rr_Se) (T := tt_Se) (N := 17) hx hb hts hin7 hown hK hP 0 kg_7_0 rfl 2 (by decide) lk10 (fun _ h9 => h9) rfl dd_Se_demeritsOf_151 ?_
          refine va_get (D := D) (ci := 2) (v := .int (nI bn)) (C := rr_Bk) (T := tt_Bk) (N := 9) hx hb hts hin2 hown hK hP 4 kg_7_4 rfl 0 (by decide) lk14 (fun _ h9 => h9) rfl dd_Se_demeritsOf_154 ?_
          refine lv_icmp_ne (tgt := 176) hx hb dd_Se_demeritsOf_157 (by decide) (fun c157 => ?_) (fun c157 => ?_)
          · skip
            have c157 : ¬ (y = bn) := fun h => c157 ((nI_eq (by omega) (by omega)).mpr h)
            refine lv_lload hx hb dd_Se_demeritsOf_176 (lv_at hl 0 rfl) ?_
            rw [hQ]
            exact kx_lret hx hb hr hlocks hK hN hS dd_Se_demeritsOf_178 () hP hD (by first | exact absurd c106 c146 | exact absurd c146 c106 | (unfold pk_dem pk_d3 pk_d2 pk_d1; rw [if_neg c62, if_pos c106, if_neg c146, if_neg c157]))
          · skip
            have c157 : y = bn := (nI_eq (by omega) (by omega)).mp c157
            refine lv_lload hx hb dd_Se_demeritsOf_160 (lv_at hl 0 rfl) ?_
            refine lv_aload_n hx hb dd_Se_demeritsOf_162 rfl (lv_at hl 3 rfl) ?_
            refine va_get (D := D) (ci := 7) (v := .ref g) (C := rr_Se) (T := tt_Se) (N := 17) hx hb hts hin7 hown hK hP 0 kg_7_0 rfl 0 (by decide) lk0 (fun _ h9 => h9) rfl dd_Se_demeritsOf_163 ?_
            refine va_get (D := D) (ci := 8) (v := .ref g0) (C := rr_Sg) (T := tt_Sg) (N := 5) hx hb hts hin8 hown hK hP 1 kg_7_1 rfl 0 (by decide) lk2 (fun _ h9 => h9) rfl dd_Se_demeritsOf_166 ?_
            refine lv_bipush (v := nI 7) hx hb dd_Se_demeritsOf_169 (by decide) ?_
            refine kx_iald (q0 := 2) (t0 := 0) hx hb dd_Se_demeritsOf_171 hK hP kg_7_2 rfl (by omega) (by omega) ?_
            refine lv_i2l hx hb dd_Se_demeritsOf_172 rfl ?_
            refine lv_ladd hx hb dd_Se_demeritsOf_173 ?_
            refine lv_lstore (lv' := [(5, .long (((pk_d0 (ru 2 + fb).toInt64) + (((bo y).toInt64) * ((bo y).toInt64))) + ((ru 7).toInt64))), (7, .long ((bo y).toInt64)), (3, .long (((ru 2) + fb).toInt64)), (0, .ref h), (1, .int (nI x)), (2, .int (nI y))]) hx hb dd_Se_demeritsOf_174 hl (by decide) rfl (fun ls hl => ?_)
            refine lv_lload hx hb dd_Se_demeritsOf_176 (lv_at hl 0 rfl) ?_
            rw [hQ]
            exact kx_lret hx hb hr hlocks hK hN hS dd_Se_demeritsOf_178 () hP hD (by first | exact absurd c106 c146 | exact absurd c146 c106 | (unfold pk_dem pk_d3 pk_d2 pk_d1; rw [if_neg c62, if_pos c106, if_neg c146, if_pos c157]))
      · skip
        refine lv_aload_n hx hb dd_Se_demeritsOf_109 rfl (lv_at hl 3 rfl) ?_
        refine va_get (D := D) (ci := 7) (v := .ref k) (C := rr_Se) (T := tt_Se) (N := 17) hx hb hts hin7 hown hK hP 0 kg_7_0 rfl 2 (by decide) lk10 (fun _ h9 => h9) rfl dd_Se_demeritsOf_110 ?_
        refine va_get (D := D) (ci := 2) (v := .ref j7) (C := rr_Bk) (T := tt_Bk) (N := 9) hx hb hts hin2 hown hK hP 4 kg_7_4 rfl 8 (by decide) lk13 (fun _ h9 => h9) rfl dd_Se_demeritsOf_113 ?_
        refine lv_iload_n hx hb dd_Se_demeritsOf_116 rfl (lv_at hl 5 rfl) ?_
        refine kx_zald (q0 := 6) (t0 := 2) hx hb dd_Se_demeritsOf_117 hK hP kg_7_6 rfl (by omega) (by omega) ?_
        refine lv_if_eq (tgt := 137) hx hb dd_Se_demeritsOf_118 (by decide) (fun c118 => ?_) (fun c118 => ?_)
        · skip
          refine lv_aload_n hx hb dd_Se_demeritsOf_137 rfl (lv_at hl 3 rfl) ?_
          refine va_get (D := D) (ci := 7) (v := .ref k) (C := rr_Se) (T := tt_Se) (N := 17) hx hb hts hin7 hown hK hP 0 kg_7_0 rfl 2 (by decide) lk10 (fun _ h9 => h9) rfl dd_Se_demeritsOf_138 ?_
          refine va_get (D := D) (ci := 2) (v := .ref j7) (C := rr_Bk) (T := tt_Bk) (N := 9) hx hb hts hin2 hown hK hP 4 kg_7_4 rfl 8 (by decide) lk13 (fun _ h9 => h9) rfl dd_Se_demeritsOf_141 ?_
          refine lv_iload_n hx hb dd_Se_demeritsOf_144 rfl (lv_at hl 4 rfl) ?_
          refine kx_zald (q0 := 6) (t0 := 2) hx hb dd_Se_demeritsOf_145 hK hP kg_7_6 rfl (by omega) (by omega) ?_
          refine lv_if_eq (tgt := 176) hx hb dd_Se_demeritsOf_146 (by decide) (fun c146 => ?_) (fun c146 => ?_)
          · skip
            refine lv_lload hx hb dd_Se_demeritsOf_176 (lv_at hl 0 rfl) ?_
            rw [hQ]
            exact kx_lret hx hb hr hlocks hK hN hS dd_Se_demeritsOf_178 () hP hD (by first | exact absurd c106 c146 | exact absurd c146 c106 | (unfold pk_dem pk_d3 pk_d2 pk_d1; rw [if_neg c62, if_neg c106, if_pos c118, if_pos c146]))
          · skip
            refine lv_iload_n hx hb dd_Se_demeritsOf_149 rfl (lv_at hl 5 rfl) ?_
            refine lv_aload_n hx hb dd_Se_demeritsOf_150 rfl (lv_at hl 3 rfl) ?_
            refine va_get (D := D) (ci := 7) (v := .ref k) (C := rr_Se) (T := tt_Se) (N := 17) hx hb hts hin7 hown hK hP 0 kg_7_0 rfl 2 (by decide) lk10 (fun _ h9 => h9) rfl dd_Se_demeritsOf_151 ?_
            refine va_get (D := D) (ci := 2) (v := .int (nI bn)) (C := rr_Bk) (T := tt_Bk) (N := 9) hx hb hts hin2 hown hK hP 4 kg_7_4 rfl 0 (by decide) lk14 (fun _ h9 => h9) rfl dd_Se_demeritsOf_154 ?_
            refine lv_icmp_ne (tgt := 176) hx hb dd_Se_demeritsOf_157 (by decide) (fun c157 => ?_) (fun c157 => ?_)
            · skip
              have c157 : ¬ (y = bn) := fun h => c157 ((nI_eq (by omega) (by omega)).mpr h)
              refine lv_lload hx hb dd_Se_demeritsOf_176 (lv_at hl 0 rfl) ?_
              rw [hQ]
              exact kx_lret hx hb hr hlocks hK hN hS dd_Se_demeritsOf_178 () hP hD (by first | exact absurd c106 c146 | exact absurd c146 c106 | (unfold pk_dem pk_d3 pk_d2 pk_d1; rw [if_neg c62, if_neg c106, if_pos c118, if_neg c146, if_neg c157]))
            · skip
              have c157 : y = bn := (nI_eq (by omega) (by omega)).mp c157
              refine lv_lload hx hb dd_Se_demeritsOf_160 (lv_at hl 0 rfl) ?_
              refine lv_aload_n hx hb dd_Se_demeritsOf_162 rfl (lv_at hl 3 rfl) ?_
              refine va_get (D := D) (ci := 7) (v := .ref g) (C := rr_Se) (T := tt_Se) (N := 17) hx hb hts hin7 hown hK hP 0 kg_7_0 rfl 0 (by decide) lk0 (fun _ h9 => h9) rfl dd_Se_demeritsOf_163 ?_
              refine va_get (D := D) (ci := 8) (v := .ref g0) (C := rr_Sg) (T := tt_Sg) (N := 5) hx hb hts hin8 hown hK hP 1 kg_7_1 rfl 0 (by decide) lk2 (fun _ h9 => h9) rfl dd_Se_demeritsOf_166 ?_
              refine lv_bipush (v := nI 7) hx hb dd_Se_demeritsOf_169 (by decide) ?_
              refine kx_iald (q0 := 2) (t0 := 0) hx hb dd_Se_demeritsOf_171 hK hP kg_7_2 rfl (by omega) (by omega) ?_
              refine lv_i2l hx hb dd_Se_demeritsOf_172 rfl ?_
              refine lv_ladd hx hb dd_Se_demeritsOf_173 ?_
              refine lv_lstore (lv' := [(5, .long (((pk_d0 (ru 2 + fb).toInt64) + (((bo y).toInt64) * ((bo y).toInt64))) + ((ru 7).toInt64))), (7, .long ((bo y).toInt64)), (3, .long (((ru 2) + fb).toInt64)), (0, .ref h), (1, .int (nI x)), (2, .int (nI y))]) hx hb dd_Se_demeritsOf_174 hl (by decide) rfl (fun ls hl => ?_)
              refine lv_lload hx hb dd_Se_demeritsOf_176 (lv_at hl 0 rfl) ?_
              rw [hQ]
              exact kx_lret hx hb hr hlocks hK hN hS dd_Se_demeritsOf_178 () hP hD (by first | exact absurd c106 c146 | exact absurd c146 c106 | (unfold pk_dem pk_d3 pk_d2 pk_d1; rw [if_neg c62, if_neg c106, if_pos c118, if_neg c146, if_pos c157]))
        · skip
          refine lv_lload hx hb dd_Se_demeritsOf_121 (lv_at hl 0 rfl) ?_
          refine lv_aload_n hx hb dd_Se_demeritsOf_123 rfl (lv_at hl 3 rfl) ?_
          refine va_get (D := D) (ci := 7) (v := .ref g) (C := rr_Se) (T := tt_Se) (N := 17) hx hb hts hin7 hown hK hP 0 kg_7_0 rfl 0 (by decide) lk0 (fun _ h9 => h9) rfl dd_Se_demeritsOf_124 ?_
          refine va_get (D := D) (ci := 8) (v := .ref g0) (C := rr_Sg) (T := tt_Sg) (N := 5) hx hb hts hin8 hown hK hP 1 kg_7_1 rfl 0 (by decide) lk2 (fun _ h9 => h9) rfl dd_Se_demeritsOf_127 ?_
          refine lv_bipush (v := nI 6) hx hb dd_Se_demeritsOf_130 (by decide) ?_
          refine kx_iald (q0 := 2) (t0 := 0) hx hb dd_Se_demeritsOf_132 hK hP kg_7_2 rfl (by omega) (by omega) ?_
          refine lv_i2l hx hb dd_Se_demeritsOf_133 rfl ?_
          refine lv_ladd hx hb dd_Se_demeritsOf_134 ?_
          refine lv_lstore (lv' := [(5, .long (((pk_d0 (ru 2 + fb).toInt64) + (((bo y).toInt64) * ((bo y).toInt64))) + ((ru 6).toInt64))), (7, .long ((bo y).toInt64)), (3, .long (((ru 2) + fb).toInt64)), (0, .ref h), (1, .int (nI x)), (2, .int (nI y))]) hx hb dd_Se_demeritsOf_135 hl (by decide) rfl (fun ls hl => ?_)
          refine lv_aload_n hx hb dd_Se_demeritsOf_137 rfl (lv_at hl 3 rfl) ?_
          refine va_get (D := D) (ci := 7) (v := .ref k) (C := rr_Se) (T := tt_Se) (N := 17) hx hb hts hin7 hown hK hP 0 kg_7_0 rfl 2 (by decide) lk10 (fun _ h9 => h9) rfl dd_Se_demeritsOf_138 ?_
          refine va_get (D := D) (ci := 2) (v := .ref j7) (C := rr_Bk) (T := tt_Bk) (N := 9) hx hb hts hin2 hown hK hP 4 kg_7_4 rfl 8 (by decide) lk13 (fun _ h9 => h9) rfl dd_Se_demeritsOf_141 ?_
          refine lv_iload_n hx hb dd_Se_demeritsOf_144 rfl (lv_at hl 4 rfl) ?_
          refine kx_zald (q0 := 6) (t0 := 2) hx hb dd_Se_demeritsOf_145 hK hP kg_7_6 rfl (by omega) (by omega) ?_
          refine lv_if_eq (tgt := 176) hx hb dd_Se_demeritsOf_146 (by decide) (fun c146 => ?_) (fun c146 => ?_)
          · skip
            refine lv_lload hx hb dd_Se_demeritsOf_176 (lv_at hl 0 rfl) ?_
            rw [hQ]
            exact kx_lret hx hb hr hlocks hK hN hS dd_Se_demeritsOf_178 () hP hD (by first | exact absurd c106 c146 | exact absurd c146 c106 | (unfold pk_dem pk_d3 pk_d2 pk_d1; rw [if_neg c62, if_neg c106, if_neg c118, if_pos c146]))
          · skip
            refine lv_iload_n hx hb dd_Se_demeritsOf_149 rfl (lv_at hl 5 rfl) ?_
            refine lv_aload_n hx hb dd_Se_demeritsOf_150 rfl (lv_at hl 3 rfl) ?_
            refine va_get (D := D) (ci := 7) (v := .ref k) (C := rr_Se) (T := tt_Se) (N := 17) hx hb hts hin7 hown hK hP 0 kg_7_0 rfl 2 (by decide) lk10 (fun _ h9 => h9) rfl dd_Se_demeritsOf_151 ?_
            refine va_get (D := D) (ci := 2) (v := .int (nI bn)) (C := rr_Bk) (T := tt_Bk) (N := 9) hx hb hts hin2 hown hK hP 4 kg_7_4 rfl 0 (by decide) lk14 (fun _ h9 => h9) rfl dd_Se_demeritsOf_154 ?_
            refine lv_icmp_ne (tgt := 176) hx hb dd_Se_demeritsOf_157 (by decide) (fun c157 => ?_) (fun c157 => ?_)
            · skip
              have c157 : ¬ (y = bn) := fun h => c157 ((nI_eq (by omega) (by omega)).mpr h)
              refine lv_lload hx hb dd_Se_demeritsOf_176 (lv_at hl 0 rfl) ?_
              rw [hQ]
              exact kx_lret hx hb hr hlocks hK hN hS dd_Se_demeritsOf_178 () hP hD (by first | exact absurd c106 c146 | exact absurd c146 c106 | (unfold pk_dem pk_d3 pk_d2 pk_d1; rw [if_neg c62, if_neg c106, if_neg c118, if_neg c146, if_neg c157]))
            · skip
              have c157 : y = bn := (nI_eq (by omega) (by omega)).mp c157
              refine lv_lload hx hb dd_Se_demeritsOf_160 (lv_at hl 0 rfl) ?_
              refine lv_aload_n hx hb dd_Se_demeritsOf_162 rfl (lv_at hl 3 rfl) ?_
              refine va_get (D := D) (ci := 7) (v := .ref g) (C := rr_Se) (T := tt_Se) (N := 17) hx hb hts hin7 hown hK hP 0 kg_7_0 rfl 0 (by decide) lk0 (fun _ h9 => h9) rfl dd_Se_demeritsOf_163 ?_
              refine va_get (D := D) (ci := 8) (v := .ref g0) (C := rr_Sg) (T := tt_Sg) (N := 5) hx hb hts hin8 hown hK hP 1 kg_7_1 rfl 0 (by decide) lk2 (fun _ h9 => h9) rfl dd_Se_demeritsOf_166 ?_
              refine lv_bipush (v := nI 7) hx hb dd_Se_demeritsOf_169 (by decide) ?_
              refine kx_iald (q0 := 2) (t0 := 0) hx hb dd_Se_demeritsOf_171 hK hP kg_7_2 rfl (by omega) (by omega) ?_
              refine lv_i2l hx hb dd_Se_demeritsOf_172 rfl ?_
              refine lv_ladd hx hb dd_Se_demeritsOf_173 ?_
              refine lv_lstore (lv' := [(5, .long ((((pk_d0 (ru 2 + fb).toInt64) + (((bo y).toInt64) * ((bo y).toInt64))) + ((ru 6).toInt64)) + ((ru 7).toInt64))), (7, .long ((bo y).toInt64)), (3, .long (((ru 2) + fb).toInt64)), (0, .ref h), (1, .int (nI x)), (2, .int (nI y))]) hx hb dd_Se_demeritsOf_174 hl (by decide) rfl (fun ls hl => ?_)
              refine lv_lload hx hb dd_Se_demeritsOf_176 (lv_at hl 0 rfl) ?_
              rw [hQ]
              exact kx_lret hx hb hr hlocks hK hN hS dd_Se_demeritsOf_178 () hP hD (by first | exact absurd c106 c146 | exact absurd c146 c106 | (unfold pk_dem pk_d3 pk_d2 pk_d1; rw [if_neg c62, if_neg c106, if_neg c118, if_neg c146, if_pos c157]))
  · skip
    refine lv_if_ge (tgt := 35) hx hb dd_Se_demeritsOf_24 (by decide) (fun c24 => ?_) (fun c24 => ?_)
    · skip
      have c24 := (lg_cmp_ge _ _).mp c24
      refine lv_ldc2 (v := (100000000)) hx hb hown lk8 dd_Se_demeritsOf_35 ?_
      refine lv_goto (tgt := 44) hx hb dd_Se_demeritsOf_38 (by decide) ?_
      exact K44 _ H locs (by rw [if_pos c24]) hP hD hS
    · skip
      have c24 : ¬ ((10000 : Int64) ≤ (((ru 2) + fb).toInt64)) := fun h => c24 ((lg_cmp_ge _ _).mpr h)
      refine lv_lload_n hx hb dd_Se_demeritsOf_27 rfl (lv_at hl 0 rfl) ?_
      refine lv_ldc2 (v := (-10000)) hx hb hown lk9 dd_Se_demeritsOf_28 ?_
      refine W.lcmp hx hb dd_Se_demeritsOf_31 ?_
      refine lv_if_gt (tgt := 41) hx hb dd_Se_demeritsOf_32 (by decide) (fun c32 => ?_) (fun c32 => ?_)
      · skip
        have c32 := (lg_cmp_gt _ _).mp c32
        refine lv_lload_n hx hb dd_Se_demeritsOf_41 rfl (lv_at hl 0 rfl) ?_
        refine lv_lload_n hx hb dd_Se_demeritsOf_42 rfl (lv_at hl 0 rfl) ?_
        refine lv_lmul hx hb dd_Se_demeritsOf_43 ?_
        exact K44 _ H locs (by rw [if_neg c24, if_pos c32]) hP hD hS
      · skip
        have c32 : ¬ ((-10000 : Int64) < (((ru 2) + fb).toInt64)) := fun h => c32 ((lg_cmp_gt _ _).mpr h)
        refine lv_ldc2 (v := (100000000)) hx hb hown lk8 dd_Se_demeritsOf_35 ?_
        refine lv_goto (tgt := 44) hx hb dd_Se_demeritsOf_38 (by decide) ?_
        exact K44 _ H locs (by rw [if_neg c24, if_neg c32]) hP hD hS
