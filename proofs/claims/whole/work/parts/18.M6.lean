/-! the list of breaks; is there one; the best at the end -/
def pq_c (P : Nat → Prop) [DecidablePred P] : Nat → Nat
  | 0 => 0
  | i + 1 => pq_c P i + (if P i then 1 else 0)
theorem pq_c_s {P : Nat → Prop} [DecidablePred P] {i : Nat} (h : P i) : pq_c P (i + 1) = pq_c P i + 1 := by simp only [pq_c, if_pos h]
theorem pq_c_n {P : Nat → Prop} [DecidablePred P] {i : Nat} (h : ¬ P i) : pq_c P (i + 1) = pq_c P i := by simp only [pq_c, if_neg h, Nat.add_zero]
theorem pq_c_mono {P : Nat → Prop} [DecidablePred P] {i : Nat} : ∀ {k : Nat}, i ≤ k → pq_c P i ≤ pq_c P k
  | 0, h => by rw [Nat.le_zero.mp h]; exact Nat.le_refl _
  | k + 1, h => by
    rcases Nat.lt_or_ge i (k + 1) with q | q
    · exact Nat.le_trans (pq_c_mono (Nat.lt_succ_iff.mp q)) (Nat.le_add_right _ _)
    · rw [Nat.le_antisymm h q]; exact Nat.le_refl _
abbrev pe_bt (el ps : Nat) (o eo : Int64) (b eb : Int32) (d ed : Int64) : Prop := if el = 0 then True else if o = eo then (if ps = 3 then (if b = eb then ¬ ed ≤ d else ¬ eb ≤ b) else ¬ ed ≤ d) else ¬ eo ≤ o
abbrev pe_S : Type := Nat × Nat × Int64 × Int32 × Int64
def pe_go (ps n : Nat) (E : Nat → Option (Int64 × Int32 × Int64)) (s0 : pe_S) : Nat → pe_S
  | 0 => s0
  | c + 1 => match E c with
    | none => pe_go ps n E s0 c
    | some x => if pe_bt (pe_go ps n E s0 c).1 ps x.1 (pe_go ps n E s0 c).2.2.1 x.2.1 (pe_go ps n E s0 c).2.2.2.1 x.2.2 (pe_go ps n E s0 c).2.2.2.2 then (n, c, x.1, x.2.1, x.2.2) else pe_go ps n E s0 c
theorem pe_go_n {ps n c : Nat} {E : Nat → Option (Int64 × Int32 × Int64)} {s0 s : pe_S} (hs : s = pe_go ps n E s0 c) (h : E c = none) : s = pe_go ps n E s0 (c + 1) := by simp only [pe_go, h]; exact hs
theorem pe_go_y {ps n c el ec : Nat} {eo ed : Int64} {eb : Int32} {E : Nat → Option (Int64 × Int32 × Int64)} {s0 : pe_S} {x : Int64 × Int32 × Int64} (hs : (el, ec, eo, eb, ed) = pe_go ps n E s0 c) (h : E c = some x) (hb : pe_bt el ps x.1 eo x.2.1 eb x.2.2 ed) : (n, c, x.1, x.2.1, x.2.2) = pe_go ps n E s0 (c + 1) := by
  simp only [pe_go, h]
  rw [← hs, if_pos hb]
theorem pe_go_k {ps n c el ec : Nat} {eo ed : Int64} {eb : Int32} {E : Nat → Option (Int64 × Int32 × Int64)} {s0 : pe_S} {x : Int64 × Int32 × Int64} (hs : (el, ec, eo, eb, ed) = pe_go ps n E s0 c) (h : E c = some x) (hb : ¬ pe_bt el ps x.1 eo x.2.1 eb x.2.2 ed) : (el, ec, eo, eb, ed) = pe_go ps n E s0 (c + 1) := by
  simp only [pe_go, h]
  rw [← hs, if_neg hb]
theorem kz_5_0 {c0 c1 c2 c3 c4 : Nat × va_E} {x : Nat × va_E} : ([c0, c1, c2, c3, c4] : va_W).set 0 x = [x, c1, c2, c3, c4] := rfl
theorem kt_5_0_1_2_3 {c0 c1 c2 c3 c4 : Nat × va_E} : ([0, 1, 2, 3] : List Nat).filterMap (fun i => ([c0, c1, c2, c3, c4] : va_W)[i]?) = ([c0, c1, c2, c3] : va_W) := rfl
theorem ks_5_0_1_2_3 {c0 c1 c2 c3 c4 : Nat × va_E} : ([0, 1, 2, 3] : List Nat).map (fun i => ([c0, c1, c2, c3, c4] : va_W)[i]?) = ([c0, c1, c2, c3] : va_W).map some := rfl
theorem ks_5_4 {c0 c1 c2 c3 c4 : Nat × va_E} : ([4] : List Nat).map (fun i => ([c0, c1, c2, c3, c4] : va_W)[i]?) = ([c4] : va_W).map some := rfl
theorem kt_5_1_2_3_4_0 {c0 c1 c2 c3 c4 : Nat × va_E} : ([1, 2, 3, 4, 0] : List Nat).filterMap (fun i => ([c0, c1, c2, c3, c4] : va_W)[i]?) = ([c1, c2, c3, c4, c0] : va_W) := rfl
theorem ks_5_1_2_3_4_0 {c0 c1 c2 c3 c4 : Nat × va_E} : ([1, 2, 3, 4, 0] : List Nat).map (fun i => ([c0, c1, c2, c3, c4] : va_W)[i]?) = ([c1, c2, c3, c4, c0] : va_W).map some := rfl
theorem kz_5_4 {c0 c1 c2 c3 c4 : Nat × va_E} {x : Nat × va_E} : ([c0, c1, c2, c3, c4] : va_W).set 4 x = [c0, c1, c2, c3, x] := rfl
theorem kw_25 : Cond.selects rr_M yy_M_isBreak yy_M_isBreak ∈ kx_T := kx_in (i := 25) (by decide +kernel) (by decide +kernel)
theorem kw_810 : Cond.fieldLink rr_M (95) "LineDeskModel" "breaks" "I" ∈ kx_T := kx_in (i := 810) (by decide +kernel) (by decide +kernel)
theorem kw_823 : Cond.fieldLink rr_M (172) "LineDeskModel" "endLines" "I" ∈ kx_T := kx_in (i := 823) (by decide +kernel) (by decide +kernel)
theorem kw_824 : Cond.fieldLink rr_M (184) "LineDeskModel" "endClass" "I" ∈ kx_T := kx_in (i := 824) (by decide +kernel) (by decide +kernel)
theorem kw_825 : Cond.fieldLink rr_M (175) "LineDeskModel" "endOut" "J" ∈ kx_T := kx_in (i := 825) (by decide +kernel) (by decide +kernel)
theorem kw_826 : Cond.fieldLink rr_M (178) "LineDeskModel" "endBad" "I" ∈ kx_T := kx_in (i := 826) (by decide +kernel) (by decide +kernel)
theorem kw_827 : Cond.fieldLink rr_M (181) "LineDeskModel" "endDemerits" "J" ∈ kx_T := kx_in (i := 827) (by decide +kernel) (by decide +kernel)
theorem kw_971 : Cond.methodLink rr_M (98) yy_M_isBreak ∈ kx_T := kx_in (i := 971) (by decide +kernel) (by decide +kernel)
theorem kw_973 : Cond.instanceMethod yy_M_isBreak ∈ kx_T := kx_in (i := 973) (by decide +kernel) (by decide +kernel)
set_option maxRecDepth 100000 in
theorem kw_974 : Cond.code yy_M_isBreak bb_M_isBreak 3 (some .boolean) ∈ kx_T := kx_in (i := 974) rfl (by decide +kernel)
theorem dd_M_list_0 : decode bb_M_list 0 = .ok (.aload_n 0, 1) := by decide +kernel
theorem dd_M_list_1 : decode bb_M_list 1 = .ok (.iconst 0, 1) := by decide +kernel
theorem dd_M_list_2 : decode bb_M_list 2 = .ok (.putfield 95, 3) := by decide +kernel
theorem dd_M_list_5 : decode bb_M_list 5 = .ok (.iconst 0, 1) := by decide +kernel
theorem dd_M_list_6 : decode bb_M_list 6 = .ok (.istore_n 1, 1) := by decide +kernel
theorem dd_M_list_7 : decode bb_M_list 7 = .ok (.iload_n 1, 1) := by decide +kernel
theorem dd_M_list_8 : decode bb_M_list 8 = .ok (.aload_n 0, 1) := by decide +kernel
theorem dd_M_list_9 : decode bb_M_list 9 = .ok (.getfield 85, 3) := by decide +kernel
theorem dd_M_list_12 : decode bb_M_list 12 = .ok (.if_icmp .gt (49), 3) := by decide +kernel
theorem dd_M_list_15 : decode bb_M_list 15 = .ok (.aload_n 0, 1) := by decide +kernel
theorem dd_M_list_16 : decode bb_M_list 16 = .ok (.iload_n 1, 1) := by decide +kernel
theorem dd_M_list_17 : decode bb_M_list 17 = .ok (.invokevirtual 98, 3) := by decide +kernel
theorem dd_M_list_20 : decode bb_M_list 20 = .ok (.ifCond .eq (35), 3) := by decide +kernel
theorem dd_M_list_23 : decode bb_M_list 23 = .ok (.aload_n 0, 1) := by decide +kernel
theorem dd_M_list_24 : decode bb_M_list 24 = .ok (.getfield 95, 3) := by decide +kernel
theorem dd_M_list_27 : decode bb_M_list 27 = .ok (.sipush (400), 3) := by decide +kernel
theorem dd_M_list_30 : decode bb_M_list 30 = .ok (.if_icmp .ne (5), 3) := by decide +kernel
theorem dd_M_list_33 : decode bb_M_list 33 = .ok (.iconst 0, 1) := by decide +kernel
theorem dd_M_list_34 : decode bb_M_list 34 = .ok (.ireturn, 1) := by decide +kernel
theorem dd_M_list_35 : decode bb_M_list 35 = .ok (.aload_n 0, 1) := by decide +kernel
theorem dd_M_list_36 : decode bb_M_list 36 = .ok (.getfield 38, 3) := by decide +kernel
theorem dd_M_list_39 : decode bb_M_list 39 = .ok (.aload_n 0, 1) := by decide +kernel
theorem dd_M_list_40 : decode bb_M_list 40 = .ok (.getfield 95, 3) := by decide +kernel
theorem dd_M_list_43 : decode bb_M_list 43 = .ok (.iload_n 1, 1) := by decide +kernel
theorem dd_M_list_44 : decode bb_M_list 44 = .ok (.iastore, 1) := by decide +kernel
theorem dd_M_list_45 : decode bb_M_list 45 = .ok (.aload_n 0, 1) := by decide +kernel
theorem dd_M_list_46 : decode bb_M_list 46 = .ok (.dup, 1) := by decide +kernel
theorem dd_M_list_47 : decode bb_M_list 47 = .ok (.getfield 95, 3) := by decide +kernel
theorem dd_M_list_50 : decode bb_M_list 50 = .ok (.iconst 1, 1) := by decide +kernel
theorem dd_M_list_51 : decode bb_M_list 51 = .ok (.iadd, 1) := by decide +kernel
theorem dd_M_list_52 : decode bb_M_list 52 = .ok (.putfield 95, 3) := by decide +kernel
theorem dd_M_list_55 : decode bb_M_list 55 = .ok (.iinc 1 (1), 3) := by decide +kernel
theorem dd_M_list_58 : decode bb_M_list 58 = .ok (.goto (-51), 3) := by decide +kernel
theorem dd_M_list_61 : decode bb_M_list 61 = .ok (.iconst 1, 1) := by decide +kernel
theorem dd_M_list_62 : decode bb_M_list 62 = .ok (.ireturn, 1) := by decide +kernel

set_option maxHeartbeats 4000000 in
set_option maxRecDepth 100000 in
theorem ct_M_list (l : Launch) (D : va_G) (cI cJ cZ : ClassId) (sz : Nat) (o : Nat) (th : Nat) (cn : Nat) (a0 : Nat) (a1 : Nat) (a2 : Nat) (a3 : Nat) (a4 : Nat) (a5 : Nat) (mn : Nat) (a6 : Nat) (a7 : Nat) (ps : Nat) (bk : Nat) (a8 : Nat) (a9 : Nat) (a10 : Nat) (a11 : Nat) (a12 : Nat) (a13 : Nat) (a14 : Nat) (a15 : Nat) (kf : Nat) (lb : Int32) (lc : Nat) (lo : Int64) (el : Nat) (ec : Nat) (eo : Int64) (eb : Int32) (ed : Int64) (mp : Nat) (ml : Nat) (md : Int64) (mo : Int64) (mb : Int32) (a16 : Nat) (a17 : Nat) (kd : Nat → Int32) (wd : Nat → Int32) (od : Nat → Int32) (it : Nat → Int32) (hc : cn ≤ 4096) (hps : ps ≤ 3) : kx_Mi l yy_M_list ww_M_list ({ frames := 1, cells := 0, slots := 0, locals := 22 }) D vwCl (kx_ty cI cJ cZ) [.ref o] [(o, .inr (0, [.int (nI th), .int (nI cn), .ref a0, .ref a1, .ref a2, .ref a3, .ref a4, .ref a5, .int (nI mn), .ref a6, .ref a7, .int (nI ps), .int (nI bk), .ref a8, .ref a9, .ref a10, .ref a11, .ref a12, .ref a13, .ref a14, .ref a15, .int (nI kf), .int lb, .int (nI lc), .long lo, .int (nI el), .int (nI ec), .long eo, .int eb, .long ed, .int (nI mp), .int (nI ml), .long md, .long mo, .int mb, .ref a16, .ref a17])), (a0, .inl (cI, 4097, .inl kd)), (a1, .inl (cI, 4097, .inl wd)), (a3, .inl (cI, 4097, .inl od)), (a8, .inl (cI, 402, .inl it))] sz (fun (r : Int32) (u : Nat × (Nat → Int32)) => (r = kb_p (pq_c (pm_br kd wd od cn ps) (cn + 1) ≤ 400)) ∧ (u.1 ≤ 400 ∧ (pq_c (pm_br kd wd od cn ps) (cn + 1) ≤ 400 → u.1 = pq_c (pm_br kd wd od cn ps) (cn + 1) ∧ ∀ k, k < cn + 1 → pm_br kd wd od cn ps k → u.2 (pq_c (pm_br kd wd od cn ps) k) = nI k))) (fun (u : Nat × (Nat → Int32)) => [(o, .inr (0, [.int (nI th), .int (nI cn), .ref a0, .ref a1, .ref a2, .ref a3, .ref a4, .ref a5, .int (nI mn), .ref a6, .ref a7, .int (nI ps), .int (nI u.1), .ref a8, .ref a9, .ref a10, .ref a11, .ref a12, .ref a13, .ref a14, .ref a15, .int (nI kf), .int lb, .int (nI lc), .long lo, .int (nI el), .int (nI ec), .long eo, .int eb, .long ed, .int (nI mp), .int (nI ml), .long md, .long mo, .int mb, .ref a16, .ref a17])), (a0, .inl (cI, 4097, .inl kd)), (a1, .inl (cI, 4097, .inl wd)), (a3, .inl (cI, 4097, .inl od)), (a8, .inl (cI, 402, .inl u.2))]) 0 0 := by
  refine kx_starti (by decide) rfl (Nat.le_of_ble_eq_true rfl) ?_
  intro p e s m below meth c A ls hx hb hr hml hts hown hlocks hin hP hK hN hD hA hS hl
  have hl : lv_has ls 2 [(0, .ref o)] := hl
  have hown : s.vm.findClass rr_M = some m.cls := hown
  have lk0 := hts _ (kx_m kw_810)
  have hin0 : ∀ w ∈ u_ws rr_M tt_M 37, w ∈ ww_M_list := fun w h => kx_m (kf_M w h)
  have lk2 := hts _ (kx_m kw_799)
  have lk3 := hts _ (kx_m kw_811)
  obtain ⟨H, hH⟩ : ∃ H, H = s.heap := ⟨_, rfl⟩
  obtain ⟨locs, hlocs⟩ : ∃ z : List Loc, z = [] := ⟨_, rfl⟩
  have hP : va_P D vwCl [(o, .inr (0, [.int (nI th), .int (nI cn), .ref a0, .ref a1, .ref a2, .ref a3, .ref a4, .ref a5, .int (nI mn), .ref a6, .ref a7, .int (nI ps), .int (nI bk), .ref a8, .ref a9, .ref a10, .ref a11, .ref a12, .ref a13, .ref a14, .ref a15, .int (nI kf), .int lb, .int (nI lc), .long lo, .int (nI el), .int (nI ec), .long eo, .int eb, .long ed, .int (nI mp), .int (nI ml), .long md, .long mo, .int mb, .ref a16, .ref a17])), (a0, .inl (cI, 4097, .inl kd)), (a1, .inl (cI, 4097, .inl wd)), (a3, .inl (cI, 4097, .inl od)), (a8, .inl (cI, 402, .inl it))] H := by rw [hH]; exact hP
  have hS : va_S A s.heap H locs := by rw [hH, hlocs]; exact hS
  refine kx_gen hH hlocs ?_
  clear hH hlocs
  refine kx_nameQ (fun Q hQ => ?_)
  refine lv_aload_n hx hb dd_M_list_0 rfl (lv_at hl 0 rfl) ?_
  refine lv_iconst (v := nI 0) hx hb dd_M_list_1 (by decide) ?_
  refine va_put (D := D) (ci := 0) (v := .int (nI 0)) (ty := .int) (C := rr_M) (T := tt_M) (N := 37) hx hb hts hin0 ft_M ft_M_ok nn_M hown hK hP hD hS 0 kg_5_0 rfl 12 (by decide) lk0 (fun _ h9 => h9) rfl (by decide +kernel) rfl rfl (Nat.le_of_ble_eq_true rfl) dd_M_list_2 (fun H locs hP hD hS => ?_)
  have hP : va_P D vwCl [(o, .inr (0, [.int (nI th), .int (nI cn), .ref a0, .ref a1, .ref a2, .ref a3, .ref a4, .ref a5, .int (nI mn), .ref a6, .ref a7, .int (nI ps), .int (nI 0), .ref a8, .ref a9, .ref a10, .ref a11, .ref a12, .ref a13, .ref a14, .ref a15, .int (nI kf), .int lb, .int (nI lc), .long lo, .int (nI el), .int (nI ec), .long eo, .int eb, .long ed, .int (nI mp), .int (nI ml), .long md, .long mo, .int mb, .ref a16, .ref a17])), (a0, .inl (cI, 4097, .inl kd)), (a1, .inl (cI, 4097, .inl wd)), (a3, .inl (cI, 4097, .inl od)), (a8, .inl (cI, 402, .inl it))] H := kx_cP kz_5_0 hP
  have hD : va_D A [(o, .inr (0, [.int (nI th), .int (nI cn), .ref a0, .ref a1, .ref a2, .ref a3, .ref a4, .ref a5, .int (nI mn), .ref a6, .ref a7, .int (nI ps), .int (nI 0), .ref a8, .ref a9, .ref a10, .ref a11, .ref a12, .ref a13, .ref a14, .ref a15, .int (nI kf), .int lb, .int (nI lc), .long lo, .int (nI el), .int (nI ec), .long eo, .int eb, .long ed, .int (nI mp), .int (nI ml), .long md, .long mo, .int mb, .ref a16, .ref a17])), (a0, .inl (cI, 4097, .inl kd)), (a1, .inl (cI, 4097, .inl wd)), (a3, .inl (cI, 4097, .inl od)), (a8, .inl (cI, 402, .inl it))] := kx_cD kz_5_0 hD
  refine lv_iconst (v := nI 0) hx hb dd_M_list_5 (by decide) ?_
  refine lv_istore_n (lv' := [(1, .int (nI 0)), (0, .ref o)]) hx hb dd_M_list_6 rfl hl (by decide) rfl (fun ls hl => ?_)
  have lp7 : ∀ (N9_7 : Nat) (i : Nat) (b1 : Nat) (t1 : Nat → Int32), (cn + 1 - i) < N9_7 → (i ≤ cn + 1) → (b1 = pq_c (pm_br kd wd od cn ps) i) → (b1 ≤ 400) → (∀ k, k < i → pm_br kd wd od cn ps k → t1 (pq_c (pm_br kd wd od cn ps) k) = nI k) → ∀ (H : Heap) (locs : List Loc), va_P D vwCl [(o, .inr (0, [.int (nI th), .int (nI cn), .ref a0, .ref a1, .ref a2, .ref a3, .ref a4, .ref a5, .int (nI mn), .ref a6, .ref a7, .int (nI ps), .int (nI b1), .ref a8, .ref a9, .ref a10, .ref a11, .ref a12, .ref a13, .ref a14, .ref a15, .int (nI kf), .int lb, .int (nI lc), .long lo, .int (nI el), .int (nI ec), .long eo, .int eb, .long ed, .int (nI mp), .int (nI ml), .long md, .long mo, .int mb, .ref a16, .ref a17])), (a0, .inl (cI, 4097, .inl kd)), (a1, .inl (cI, 4097, .inl wd)), (a3, .inl (cI, 4097, .inl od)), (a8, .inl (cI, 402, .inl t1))] H → va_D A [(o, .inr (0, [.int (nI th), .int (nI cn), .ref a0, .ref a1, .ref a2, .ref a3, .ref a4, .ref a5, .int (nI mn), .ref a6, .ref a7, .int (nI ps), .int (nI b1), .ref a8, .ref a9, .ref a10, .ref a11, .ref a12, .ref a13, .ref a14, .ref a15, .int (nI kf), .int lb, .int (nI lc), .long lo, .int (nI el), .int (nI ec), .long eo, .int eb, .long ed, .int (nI mp), .int (nI ml), .long md, .long mo, .int mb, .ref a16, .ref a17])), (a0, .inl (cI, 4097, .inl kd)), (a1, .inl (cI, 4097, .inl wd)), (a3, .inl (cI, 4097, .inl od)), (a8, .inl (cI, 402, .inl t1))] → va_S A s.heap H locs → ∀ (ls : Array Slot), lv_has ls 2 [(0, .ref o), (1, .int (nI i))] → W p l e (headSpec ww_M_list { frames := 1, cells := 0, slots := 0, locals := 22 }).room s m ([.ref o] : List Value).toArray below meth c H locs 0 0 Q (F0 m 7 ls []) := by
    clear hP hD hS hl
    intro N9_7
    induction N9_7 with
    | zero => intro _ _ _ h9; exact absurd h9 (Nat.not_lt_zero _)
    | succ N9_7 ih_7 =>
      intro i b1 t1 hμ_7 hi hb1 hb4 hti H locs hP hD hS ls hl
      refine lv_iload_n hx hb dd_M_list_7 rfl (lv_at hl 1 rfl) ?_
      refine lv_aload_n hx hb dd_M_list_8 rfl (lv_at hl 0 rfl) ?_
      refine va_get (D := D) (ci := 0) (v := .int (nI cn)) (C := rr_M) (T := tt_M) (N := 37) hx hb hts hin0 hown hK hP 0 kg_5_0 rfl 1 (by decide) lk2 (fun _ h9 => h9) rfl dd_M_list_9 ?_
      refine lv_icmp_gt (tgt := 61) hx hb dd_M_list_12 (by decide) (fun c12 => ?_) (fun c12 => ?_)
      · skip
        have c12 : cn < i := (nI_ltI (by omega) (by omega)).mp c12
        refine lv_iconst (v := nI 1) hx hb dd_M_list_61 (by decide) ?_
        rw [hQ]
        exact kx_zret hx hb hr hlocks hK hN hS dd_M_list_62 (by decide) (b1, t1) hP hD (by have h8 : i = cn + 1 := (by omega); rw [h8] at hb1 hti; exact ⟨kb_t (by omega), hb4, fun _ => ⟨hb1, hti⟩⟩)
      · skip
        have c12 : ¬ (cn < i) := fun h => c12 ((nI_ltI (by omega) (by omega)).mpr h)
        refine lv_aload_n hx hb dd_M_list_15 rfl (lv_at hl 0 rfl) ?_
        refine lv_iload_n hx hb dd_M_list_16 rfl (lv_at hl 1 rfl) ?_
        refine kx_calli (wr := [(a8, .inl (cI, 402, .inl t1))]) (va_runV (C := rr_M) (As := [.int (nI i)]) (rest := []) ⟨hx, hb, hml, hown, hts⟩ (ct_M_isBreak l D cI cJ cZ H.size o th cn a0 a1 a2 a3 a4 a5 mn a6 a7 ps b1 a8 a9 a10 a11 a12 a13 a14 a15 kf lb lc lo el ec eo eb ed mp ml md mo mb a16 a17 kd wd od i (by omega) (by omega) (by omega)) ⟨(callB_of 1 hts (kx_good kw_974) rfl rfl rfl (hts _ (kx_m kw_53)) (hts _ (kx_m kw_971)) (by decide +kernel) ⟨Nat.le_of_ble_eq_true rfl, Nat.le_of_ble_eq_true rfl⟩), (hts _ (kx_m kw_973)), (hts _ (kx_m kw_25))⟩ (kx_preV (ci := 0) (q0 := 0) hK hN (hP.sub [0, 1, 2, 3] kt_5_0_1_2_3) (hD.sub [0, 1, 2, 3] (by decide) ks_5_0_1_2_3) rfl kg_4_0) rfl rfl hl.1 rfl (lv_room (Nat.le_of_ble_eq_true rfl)) dd_M_list_17 ⟨Nat.le_of_ble_eq_true rfl, Nat.le_of_ble_eq_true rfl⟩) hP hD hS hA [0, 1, 2, 3] [4] ks_5_0_1_2_3 ks_5_4 (by decide) (by decide) (fun r17 u17 H locs hw17 hP hD hS => ?_)
        have hP : va_P D vwCl [(a8, .inl (cI, 402, .inl t1)), (o, .inr (0, [.int (nI th), .int (nI cn), .ref a0, .ref a1, .ref a2, .ref a3, .ref a4, .ref a5, .int (nI mn), .ref a6, .ref a7, .int (nI ps), .int (nI b1), .ref a8, .ref a9, .ref a10, .ref a11, .ref a12, .ref a13, .ref a14, .ref a15, .int (nI kf), .int lb, .int (nI lc), .long lo, .int (nI el), .int (nI ec), .long eo, .int eb, .long ed, .int (nI mp), .int (nI ml), .long md, .long mo, .int mb, .ref a16, .ref a17])), (a0, .inl (cI, 4097, .inl kd)), (a1, .inl (cI, 4097, .inl wd)), (a3, .inl (cI, 4097, .inl od))] H := hP
        have hD : va_D A [(a8, .inl (cI, 402, .inl t1)), (o, .inr (0, [.int (nI th), .int (nI cn), .ref a0, .ref a1, .ref a2, .ref a3, .ref a4, .ref a5, .int (nI mn), .ref a6, .ref a7, .int (nI ps), .int (nI b1), .ref a8, .ref a9, .ref a10, .ref a11, .ref a12, .ref a13, .ref a14, .ref a15, .int (nI kf), .int lb, .int (nI lc), .long lo, .int (nI el), .int (nI ec), .long eo, .int eb, .long ed, .int (nI mp), .int (nI ml), .long md, .long mo, .int mb, .ref a16, .ref a17])), (a0, .inl (cI, 4097, .inl kd)), (a1, .inl (cI, 4097, .inl wd)), (a3, .inl (cI, 4097, .inl od))] := hD
        have hP : va_P D vwCl [(o, .inr (0, [.int (nI th), .int (nI cn), .ref a0, .ref a1, .ref a2, .ref a3, .ref a4, .ref a5, .int (nI mn), .ref a6, .ref a7, .int (nI ps), .int (nI b1), .ref a8, .ref a9, .ref a10, .ref a11, .ref a12, .ref a13, .ref a14, .ref a15, .int (nI kf), .int lb, .int (nI lc), .long lo, .int (nI el), .int (nI ec), .long eo, .int eb, .long ed, .int (nI mp), .int (nI ml), .long md, .long mo, .int mb, .ref a16, .ref a17])), (a0, .inl (cI, 4097, .inl kd)), (a1, .inl (cI, 4097, .inl wd)), (a3, .inl (cI, 4097, .inl od)), (a8, .inl (cI, 402, .inl t1))] H := hP.sub [1, 2, 3, 4, 0] kt_5_1_2_3_4_0
        have hD : va_D A [(o, .inr (0, [.int (nI th), .int (nI cn), .ref a0, .ref a1, .ref a2, .ref a3, .ref a4, .ref a5, .int (nI mn), .ref a6, .ref a7, .int (nI ps), .int (nI b1), .ref a8, .ref a9, .ref a10, .ref a11, .ref a12, .ref a13, .ref a14, .ref a15, .int (nI kf), .int lb, .int (nI lc), .long lo, .int (nI el), .int (nI ec), .long eo, .int eb, .long ed, .int (nI mp), .int (nI ml), .long md, .long mo, .int mb, .ref a16, .ref a17])), (a0, .inl (cI, 4097, .inl kd)), (a1, .inl (cI, 4097, .inl wd)), (a3, .inl (cI, 4097, .inl od)), (a8, .inl (cI, 402, .inl t1))] := hD.sub [1, 2, 3, 4, 0] (by decide) ks_5_1_2_3_4_0
        have hw17 : r17 = kb_p (pm_br kd wd od cn ps i) := hw17
        subst hw17
        refine lv_if_eq (tgt := 55) hx hb dd_M_list_20 (by decide) (fun c20 => ?_) (fun c20 => ?_)
        · skip
          have c20 : ¬ (pm_br kd wd od cn ps i) := kb_0.mp c20
          refine lv_iinc (v := nI (i + 1)) (lv' := [(1, .int (nI (i + 1))), (0, .ref o)]) hx hb dd_M_list_55 hl (k := 1) rfl (nI_add i 1) (by decide) rfl (fun ls hl => ?_)
          refine lv_goto (tgt := 7) hx hb dd_M_list_58 (by decide) ?_
          exact ih_7 (i + 1) b1 t1 (by omega) (by omega) (by first | (rw [pq_c_n c20]; exact hb1) | (rw [pq_c_s c20, hb1])) (by omega) (by first | exact fun k hk hp => (show k < i ∨ k = i by omega).elim (fun h => hti k h hp) (fun h => absurd (h ▸ hp) c20) | exact hti2) H locs hP hD hS ls (lv_sub hl [1, 0] rfl)
        · skip
          have c20 : pm_br kd wd od cn ps i := kb_1.mp c20
          refine lv_aload_n hx hb dd_M_list_23 rfl (lv_at hl 0 rfl) ?_
          refine va_get (D := D) (ci := 0) (v := .int (nI b1)) (C := rr_M) (T := tt_M) (N := 37) hx hb hts hin0 hown hK hP 0 kg_5_0 rfl 12 (by decide) lk0 (fun _ h9 => h9) rfl dd_M_list_24 ?_
          refine lv_sipush (v := nI 400) hx hb dd_M_list_27 (by decide) ?_
          refine lv_icmp_ne (tgt := 35) hx hb dd_M_list_30 (by decide) (fun c30 => ?_) (fun c30 => ?_)
          · skip
            have c30 : ¬ (b1 = 400) := fun h => c30 ((nI_eq (by omega) (by omega)).mpr h)
            have hlt : b1 < 400 := by omega
            refine lv_aload_n hx hb dd_M_list_35 rfl (lv_at hl 0 rfl) ?_
            refine va_get (D := D) (ci := 0) (v := .ref a8) (C := rr_M) (T := tt_M) (N := 37) hx hb hts hin0 hown hK hP 0 kg_5_0 rfl 13 (by decide) lk3 (fun _ h9 => h9) rfl dd_M_list_36 ?_
            refine lv_aload_n hx hb dd_M_list_39 rfl (lv_at hl 0 rfl) ?_
            refine va_get (D := D) (ci := 0) (v := .int (nI b1)) (C := rr_M) (T := tt_M) (N := 37) hx hb hts hin0 hown hK hP 0 kg_5_0 rfl 12 (by decide) lk0 (fun _ h9 => h9) rfl dd_M_list_40 ?_
            refine lv_iload_n hx hb dd_M_list_43 rfl (lv_at hl 1 rfl) ?_
            refine kx_iast (q0 := 4) (t0 := 0) hx hb dd_M_list_44 hK hP hD hS kg_5_4 rfl (by omega) (by omega) (fun H locs hP hD hS => ?_)
            obtain ⟨t2, e_t2⟩ : ∃ z, z = upd t1 b1 (nI i) := ⟨_, rfl⟩
            have hP : va_P D vwCl [(o, .inr (0, [.int (nI th), .int (nI cn), .ref a0, .ref a1, .ref a2, .ref a3, .ref a4, .ref a5, .int (nI mn), .ref a6, .ref a7, .int (nI ps), .int (nI b1), .ref a8, .ref a9, .ref a10, .ref a11, .ref a12, .ref a13, .ref a14, .ref a15, .int (nI kf), .int lb, .int (nI lc), .long lo, .int (nI el), .int (nI ec), .long eo, .int eb, .long ed, .int (nI mp), .int (nI ml), .long md, .long mo, .int mb, .ref a16, .ref a17])), (a0, .inl (cI, 4097, .inl kd)), (a1, .inl (cI, 4097, .inl wd)), (a3, .inl (cI, 4097, .inl od)), (a8, .inl (cI, 402, .inl t2))] H := by rw [e_t2]; exact kx_cP kz_5_4 hP
            have hD : va_D A [(o, .inr (0, [.int (nI th), .int (nI cn), .ref a0, .ref a1, .ref a2, .ref a3, .ref a4, .ref a5, .int (nI mn), .ref a6, .ref a7, .int (nI ps), .int (nI b1), .ref a8, .ref a9, .ref a10, .ref a11, .ref a12, .ref a13, .ref a14, .ref a15, .int (nI kf), .int lb, .int (nI lc), .long lo, .int (nI el), .int (nI ec), .long eo, .int eb, .long ed, .int (nI mp), .int (nI ml), .long md, .long mo, .int mb, .ref a16, .ref a17])), (a0, .inl (cI, 4097, .inl kd)), (a1, .inl (cI, 4097, .inl wd)), (a3, .inl (cI, 4097, .inl od)), (a8, .inl (cI, 402, .inl t2))] := by rw [e_t2]; exact kx_cD kz_5_4 hD
            have hti2 : ∀ k, k < i + 1 → pm_br kd wd od cn ps k → t2 (pq_c (pm_br kd wd od cn ps) k) = nI k := fun k hk hp => (show k < i ∨ k = i by omega).elim (fun h => by rw [e_t2]; unfold upd; rw [if_neg (by have := pq_c_mono (P := (pm_br kd wd od cn ps)) (show k + 1 ≤ i by omega); rw [pq_c_s hp] at this; omega)]; exact hti k h hp) (fun h => by rw [e_t2, h]; unfold upd; rw [if_pos hb1.symm])
            refine lv_aload_n hx hb dd_M_list_45 rfl (lv_at hl 0 rfl) ?_
            refine lv_dup hx hb dd_M_list_46 rfl ?_
            refine va_get (D := D) (ci := 0) (v := .int (nI b1)) (C := rr_M) (T := tt_M) (N := 37) hx hb hts hin0 hown hK hP 0 kg_5_0 rfl 12 (by decide) lk0 (fun _ h9 => h9) rfl dd_M_list_47 ?_
            refine lv_iconst (v := nI 1) hx hb dd_M_list_50 (by decide) ?_
            refine kx_iadd hx hb dd_M_list_51 ?_
            refine va_put (D := D) (ci := 0) (v := .int (nI (b1 + 1))) (ty := .int) (C := rr_M) (T := tt_M) (N := 37) hx hb hts hin0 ft_M ft_M_ok nn_M hown hK hP hD hS 0 kg_5_0 rfl 12 (by decide) lk0 (fun _ h9 => h9) rfl (by decide +kernel) rfl rfl (Nat.le_of_ble_eq_true rfl) dd_M_list_52 (fun H locs hP hD hS => ?_)
            have hP : va_P D vwCl [(o, .inr (0, [.int (nI th), .int (nI cn), .ref a0, .ref a1, .ref a2, .ref a3, .ref a4, .ref a5, .int (nI mn), .ref a6, .ref a7, .int (nI ps), .int (nI (b1 + 1)), .ref a8, .ref a9, .ref a10, .ref a11, .ref a12, .ref a13, .ref a14, .ref a15, .int (nI kf), .int lb, .int (nI lc), .long lo, .int (nI el), .int (nI ec), .long eo, .int eb, .long ed, .int (nI mp), .int (nI ml), .long md, .long mo, .int mb, .ref a16, .ref a17])), (a0, .inl (cI, 4097, .inl kd)), (a1, .inl (cI, 4097, .inl wd)), (a3, .inl (cI, 4097, .inl od)), (a8, .inl (cI, 402, .inl t2))] H := kx_cP kz_5_0 hP
            have hD : va_D A [(o, .inr (0, [.int (nI th), .int (nI cn), .ref a0, .ref a1, .ref a2, .ref a3, .ref a4, .ref a5, .int (nI mn), .ref a6, .ref a7, .int (nI ps), .int (nI (b1 + 1)), .ref a8, .ref a9, .ref a10, .ref a11, .ref a12, .ref a13, .ref a14, .ref a15, .int (nI kf), .int lb, .int (nI lc), .long lo, .int (nI el), .int (nI ec), .long eo, .int eb, .long ed, .int (nI mp), .int (nI ml), .long md, .long mo, .int mb, .ref a16, .ref a17])), (a0, .inl (cI, 4097, .inl kd)), (a1, .inl (cI, 4097, .inl wd)), (a3, .inl (cI, 4097, .inl od)), (a8, .inl (cI, 402, .inl t2))] := kx_cD kz_5_0 hD
            refine lv_iinc (v := nI (i + 1)) (lv' := [(1, .int (nI (i + 1))), (0, .ref o)]) hx hb dd_M_list_55 hl (k := 1) rfl (nI_add i 1) (by decide) rfl (fun ls hl => ?_)
            refine lv_goto (tgt := 7) hx hb dd_M_list_58 (by decide) ?_
            exact ih_7 (i + 1) (b1 + 1) t2 (by omega) (by omega) (by first | (rw [pq_c_n c20]; exact hb1) | (rw [pq_c_s c20, hb1])) (by omega) (by first | exact fun k hk hp => (show k < i ∨ k = i by omega).elim (fun h => hti k h hp) (fun h => absurd (h ▸ hp) c20) | exact hti2) H locs hP hD hS ls (lv_sub hl [1, 0] rfl)
          · skip
            have c30 : b1 = 400 := (nI_eq (by omega) (by omega)).mp c30
            refine lv_iconst (v := nI 0) hx hb dd_M_list_33 (by decide) ?_
            rw [hQ]
            exact kx_zret hx hb hr hlocks hK hN hS dd_M_list_34 (by decide) (b1, t1) hP hD (by have h9 : ¬ pq_c (pm_br kd wd od cn ps) (cn + 1) ≤ 400 := (by have h8 := pq_c_mono (P := (pm_br kd wd od cn ps)) (show i + 1 ≤ cn + 1 by omega); rw [pq_c_s c20] at h8; omega); exact ⟨kb_f h9, by omega, fun q => absurd q h9⟩)
  exact lp7 ((cn + 1 - 0) + 1) 0 0 it (Nat.lt_succ_self _) (by omega) rfl (by omega) (fun k hk => absurd hk (Nat.not_lt_zero _)) H locs hP hD hS ls (lv_sub hl [1, 0] rfl)

theorem dd_M_some_0 : decode bb_M_some 0 = .ok (.iconst 0, 1) := by decide +kernel
theorem dd_M_some_1 : decode bb_M_some 1 = .ok (.istore_n 2, 1) := by decide +kernel
theorem dd_M_some_2 : decode bb_M_some 2 = .ok (.iconst 0, 1) := by decide +kernel
theorem dd_M_some_3 : decode bb_M_some 3 = .ok (.istore_n 3, 1) := by decide +kernel
theorem dd_M_some_4 : decode bb_M_some 4 = .ok (.iload_n 3, 1) := by decide +kernel
theorem dd_M_some_5 : decode bb_M_some 5 = .ok (.iconst 4, 1) := by decide +kernel
theorem dd_M_some_6 : decode bb_M_some 6 = .ok (.aload_n 0, 1) := by decide +kernel
theorem dd_M_some_7 : decode bb_M_some 7 = .ok (.getfield 95, 3) := by decide +kernel
theorem dd_M_some_10 : decode bb_M_some 10 = .ok (.imul, 1) := by decide +kernel
theorem dd_M_some_11 : decode bb_M_some 11 = .ok (.if_icmp .ge (36), 3) := by decide +kernel
theorem dd_M_some_14 : decode bb_M_some 14 = .ok (.iload_n 2, 1) := by decide +kernel
theorem dd_M_some_15 : decode bb_M_some 15 = .ok (.ifCond .ne (20), 3) := by decide +kernel
theorem dd_M_some_18 : decode bb_M_some 18 = .ok (.aload_n 0, 1) := by decide +kernel
theorem dd_M_some_19 : decode bb_M_some 19 = .ok (.getfield 41, 3) := by decide +kernel
theorem dd_M_some_22 : decode bb_M_some 22 = .ok (.sipush (1608), 3) := by decide +kernel
theorem dd_M_some_25 : decode bb_M_some 25 = .ok (.iload_n 1, 1) := by decide +kernel
theorem dd_M_some_26 : decode bb_M_some 26 = .ok (.iconst 1, 1) := by decide +kernel
theorem dd_M_some_27 : decode bb_M_some 27 = .ok (.iand, 1) := by decide +kernel
theorem dd_M_some_28 : decode bb_M_some 28 = .ok (.imul, 1) := by decide +kernel
theorem dd_M_some_29 : decode bb_M_some 29 = .ok (.iload_n 3, 1) := by decide +kernel
theorem dd_M_some_30 : decode bb_M_some 30 = .ok (.iadd, 1) := by decide +kernel
theorem dd_M_some_31 : decode bb_M_some 31 = .ok (.baload, 1) := by decide +kernel
theorem dd_M_some_32 : decode bb_M_some 32 = .ok (.ifCond .eq (7), 3) := by decide +kernel
theorem dd_M_some_35 : decode bb_M_some 35 = .ok (.iconst 1, 1) := by decide +kernel
theorem dd_M_some_36 : decode bb_M_some 36 = .ok (.goto (4), 3) := by decide +kernel
theorem dd_M_some_39 : decode bb_M_some 39 = .ok (.iconst 0, 1) := by decide +kernel
theorem dd_M_some_40 : decode bb_M_some 40 = .ok (.istore_n 2, 1) := by decide +kernel
theorem dd_M_some_41 : decode bb_M_some 41 = .ok (.iinc 3 (1), 3) := by decide +kernel
theorem dd_M_some_44 : decode bb_M_some 44 = .ok (.goto (-40), 3) := by decide +kernel
theorem dd_M_some_47 : decode bb_M_some 47 = .ok (.iload_n 2, 1) := by decide +kernel
theorem dd_M_some_48 : decode bb_M_some 48 = .ok (.ireturn, 1) := by decide +kernel

set_option maxHeartbeats 4000000 in
set_option maxRecDepth 100000 in
theorem ct_M_some (l : Launch) (D : va_G) (cI cJ cZ : ClassId) (sz : Nat) (o : Nat) (th : Nat) (cn : Nat) (a0 : Nat) (a1 : Nat) (a2 : Nat) (a3 : Nat) (a4 : Nat) (a5 : Nat) (mn : Nat) (a6 : Nat) (a7 : Nat) (ps : Nat) (bk : Nat) (a8 : Nat) (a9 : Nat) (a10 : Nat) (a11 : Nat) (a12 : Nat) (a13 : Nat) (a14 : Nat) (a15 : Nat) (kf : Nat) (lb : Int32) (lc : Nat) (lo : Int64) (el : Nat) (ec : Nat) (eo : Int64) (eb : Int32) (ed : Int64) (mp : Nat) (ml : Nat) (md : Int64) (mo : Int64) (mb : Int32) (a16 : Nat) (a17 : Nat) (iz : Nat → Int32) (n : Nat) (hn : n ≤ 400) (hbk : bk ≤ 400) : kx_Mi l yy_M_some ww_M_some ({ frames := 0, cells := 0, slots := 0, locals := 0 }) D vwCl (kx_ty cI cJ cZ) [.ref o, .int (nI n)] [(o, .inr (0, [.int (nI th), .int (nI cn), .ref a0, .ref a1, .ref a2, .ref a3, .ref a4, .ref a5, .int (nI mn), .ref a6, .ref a7, .int (nI ps), .int (nI bk), .ref a8, .ref a9, .ref a10, .ref a11, .ref a12, .ref a13, .ref a14, .ref a15, .int (nI kf), .int lb, .int (nI lc), .long lo, .int (nI el), .int (nI ec), .long eo, .int eb, .long ed, .int (nI mp), .int (nI ml), .long md, .long mo, .int mb, .ref a16, .ref a17])), (a9, .inl (cZ, 3216, .inl iz))] sz (fun (r : Int32) (u : Unit) => (r = nI 0 ∨ r = nI 1) ∧ (r = 0 ↔ ∀ x, x < 4 * bk → iz (1608 * (n % 2) + x) = 0)) (fun (u : Unit) => [(o, .inr (0, [.int (nI th), .int (nI cn), .ref a0, .ref a1, .ref a2, .ref a3, .ref a4, .ref a5, .int (nI mn), .ref a6, .ref a7, .int (nI ps), .int (nI bk), .ref a8, .ref a9, .ref a10, .ref a11, .ref a12, .ref a13, .ref a14, .ref a15, .int (nI kf), .int lb, .int (nI lc), .long lo, .int (nI el), .int (nI ec), .long eo, .int eb, .long ed, .int (nI mp), .int (nI ml), .long md, .long mo, .int mb, .ref a16, .ref a17])), (a9, .inl (cZ, 3216, .inl iz))]) 0 0 := by
  refine kx_starti (by decide) rfl (Nat.le_of_ble_eq_true rfl) ?_
  intro p e s m below meth c A ls hx hb hr hml hts hown hlocks hin hP hK hN hD hA hS hl
  have hl : lv_has ls 4 [(0, .ref o), (1, .int (nI n))] := hl
  have hown : s.vm.findClass rr_M = some m.cls := hown
  have lk0 := hts _ (kx_m kw_810)
  have hin0 : ∀ w ∈ u_ws rr_M tt_M 37, w ∈ ww_M_some := fun w h => kx_m (kf_M w h)
  have lk2 := hts _ (kx_m kw_812)
  obtain ⟨H, hH⟩ : ∃ H, H = s.heap := ⟨_, rfl⟩
  obtain ⟨locs, hlocs⟩ : ∃ z : List Loc, z = [] := ⟨_, rfl⟩
  have hP : va_P D vwCl [(o, .inr (0, [.int (nI th), .int (nI cn), .ref a0, .ref a1, .ref a2, .ref a3, .ref a4, .ref a5, .int (nI mn), .ref a6, .ref a7, .int (nI ps), .int (nI bk), .ref a8, .ref a9, .ref a10, .ref a11, .ref a12, .ref a13, .ref a14, .ref a15, .int (nI kf), .int lb, .int (nI lc), .long lo, .int (nI el), .int (nI ec), .long eo, .int eb, .long ed, .int (nI mp), .int (nI ml), .long md, .long mo, .int mb, .ref a16, .ref a17])), (a9, .inl (cZ, 3216, .inl iz))] H := by rw [hH]; exact hP
  have hS : va_S A s.heap H locs := by rw [hH, hlocs]; exact hS
  refine kx_gen hH hlocs ?_
  clear hH hlocs
  refine kx_nameQ (fun Q hQ => ?_)
  refine lv_iconst (v := nI 0) hx hb dd_M_some_0 (by decide) ?_
  refine lv_istore_n (lv' := [(2, .int (nI 0)), (0, .ref o), (1, .int (nI n))]) hx hb dd_M_some_1 rfl hl (by decide) rfl (fun ls hl => ?_)
  refine lv_iconst (v := nI 0) hx hb dd_M_some_2 (by decide) ?_
  refine lv_istore_n (lv' := [(3, .int (nI 0)), (2, .int (nI 0)), (0, .ref o), (1, .int (nI n))]) hx hb dd_M_some_3 rfl hl (by decide) rfl (fun ls hl => ?_)
  have lp4 : ∀ (N9_4 : Nat) (k : Nat) (sm : Int32), (4 * bk - k) < N9_4 → (k ≤ 4 * bk) → (sm = nI 0 ∨ sm = nI 1) → (sm = 0 ↔ ∀ x, x < k → iz (1608 * (n % 2) + x) = 0) → ∀ (H : Heap) (locs : List Loc), va_P D vwCl [(o, .inr (0, [.int (nI th), .int (nI cn), .ref a0, .ref a1, .ref a2, .ref a3, .ref a4, .ref a5, .int (nI mn), .ref a6, .ref a7, .int (nI ps), .int (nI bk), .ref a8, .ref a9, .ref a10, .ref a11, .ref a12, .ref a13, .ref a14, .ref a15, .int (nI kf), .int lb, .int (nI lc), .long lo, .int (nI el), .int (nI ec), .long eo, .int eb, .long ed, .int (nI mp), .int (nI ml), .long md, .long mo, .int mb, .ref a16, .ref a17])), (a9, .inl (cZ, 3216, .inl iz))] H → va_D A [(o, .inr (0, [.int (nI th), .int (nI cn), .ref a0, .ref a1, .ref a2, .ref a3, .ref a4, .ref a5, .int (nI mn), .ref a6, .ref a7, .int (nI ps), .int (nI bk), .ref a8, .ref a9, .ref a10, .ref a11, .ref a12, .ref a13, .ref a14, .ref a15, .int (nI kf), .int lb, .int (nI lc), .long lo, .int (nI el), .int (nI ec), .long eo, .int eb, .long ed, .int (nI mp), .int (nI ml), .long md, .long mo, .int mb, .ref a16, .ref a17])), (a9, .inl (cZ, 3216, .inl iz))] → va_S A s.heap H locs → ∀ (ls : Array Slot), lv_has ls 4 [(0, .ref o), (1, .int (nI n)), (2, .int sm), (3, .int (nI k))] → W p l e (headSpec ww_M_some { frames := 0, cells := 0, slots := 0, locals := 0 }).room s m ([.ref o, .int (nI n)] : List Value).toArray below meth c H locs 0 0 Q (F0 m 4 ls []) := by
    clear hP hD hS hl
    intro N9_4
    induction N9_4 with
    | zero => intro _ _ h9; exact absurd h9 (Nat.not_lt_zero _)
    | succ N9_4 ih_4 =>
      intro k sm hμ_4 hk h01 hs H locs hP hD hS ls hl
      refine lv_iload_n hx hb dd_M_some_4 rfl (lv_at hl 3 rfl) ?_
      refine lv_iconst (v := nI 4) hx hb dd_M_some_5 (by decide) ?_
      refine lv_aload_n hx hb dd_M_some_6 rfl (lv_at hl 0 rfl) ?_
      refine va_get (D := D) (ci := 0) (v := .int (nI bk)) (C := rr_M) (T := tt_M) (N := 37) hx hb hts hin0 hown hK hP 0 kg_2_0 rfl 12 (by decide) lk0 (fun _ h9 => h9) rfl dd_M_some_7 ?_
      refine kx_imul hx hb dd_M_some_10 ?_
      refine lv_icmp_ge (tgt := 47) hx hb dd_M_some_11 (by decide) (fun c11 => ?_) (fun c11 => ?_)
      · skip
        have c11 : (4 * bk) ≤ k := (nI_leI (by omega) (by omega)).mp c11
        refine lv_iload_n hx hb dd_M_some_47 rfl (lv_at hl 2 rfl) ?_
        rw [hQ]
        exact kx_zret hx hb hr hlocks hK hN hS dd_M_some_48 (by rcases h01 with h | h <;> rw [h] <;> decide) () hP hD (by have h8 : k = 4 * bk := (by omega); rw [h8] at hs; exact ⟨h01, hs⟩)
      · skip
        have c11 : ¬ ((4 * bk) ≤ k) := fun h => c11 ((nI_leI (by omega) (by omega)).mpr h)
        refine lv_iload_n hx hb dd_M_some_14 rfl (lv_at hl 2 rfl) ?_
        refine lv_if_ne (tgt := 35) hx hb dd_M_some_15 (by decide) (fun c15 => ?_) (fun c15 => ?_)
        · skip
          refine lv_iconst (v := nI 1) hx hb dd_M_some_35 (by decide) ?_
          refine lv_goto (tgt := 40) hx hb dd_M_some_36 (by decide) ?_
          refine lv_istore_n (lv' := [(2, .int (nI 1)), (0, .ref o), (1, .int (nI n)), (3, .int (nI k))]) hx hb dd_M_some_40 rfl hl (by decide) rfl (fun ls hl => ?_)
          refine lv_iinc (v := nI (k + 1)) (lv' := [(3, .int (nI (k + 1))), (2, .int (nI 1)), (0, .ref o), (1, .int (nI n))]) hx hb dd_M_some_41 hl (k := 3) rfl (nI_add k 1) (by decide) rfl (fun ls hl => ?_)
          refine lv_goto (tgt := 4) hx hb dd_M_some_44 (by decide) ?_
          exact ih_4 (k + 1) (nI 1) (by omega) (by omega) (by first | exact Or.inr rfl | exact Or.inl rfl) (by first | exact ⟨fun q => absurd q (by decide), fun q => absurd (hs.mpr (fun x hx => q x (by omega))) c15⟩ | exact ⟨fun q => absurd q (by decide), fun q => absurd (q k (by omega)) c32⟩ | exact ⟨fun _ x hx => (show x < k ∨ x = k by omega).elim (fun h => (hs.mp c15) x h) (fun h => by rw [h]; exact c32), fun _ => nI_0⟩) H locs hP hD hS ls (lv_sub hl [2, 3, 1, 0] rfl)
        · skip
          refine lv_aload_n hx hb dd_M_some_18 rfl (lv_at hl 0 rfl) ?_
          refine va_get (D := D) (ci := 0) (v := .ref a9) (C := rr_M) (T := tt_M) (N := 37) hx hb hts hin0 hown hK hP 0 kg_2_0 rfl 14 (by decide) lk2 (fun _ h9 => h9) rfl dd_M_some_19 ?_
          refine lv_sipush (v := nI 1608) hx hb dd_M_some_22 (by decide) ?_
          refine lv_iload_n hx hb dd_M_some_25 rfl (lv_at hl 1 rfl) ?_
          refine lv_iconst (v := nI 1) hx hb dd_M_some_26 (by decide) ?_
          refine lv_iand hx hb dd_M_some_27 ?_
          refine kx_toN (n := n % 2) (kn_and1 (by omega)) ?_
          refine kx_imul hx hb dd_M_some_28 ?_
          refine lv_iload_n hx hb dd_M_some_29 rfl (lv_at hl 3 rfl) ?_
          refine kx_iadd hx hb dd_M_some_30 ?_
          refine kx_zald (q0 := 1) (t0 := 2) hx hb dd_M_some_31 hK hP kg_2_1 rfl (by omega) (by omega) ?_
          refine lv_if_eq (tgt := 39) hx hb dd_M_some_32 (by decide) (fun c32 => ?_) (fun c32 => ?_)
          · skip
            refine lv_iconst (v := nI 0) hx hb dd_M_some_39 (by decide) ?_
            refine lv_istore_n (lv' := [(2, .int (nI 0)), (0, .ref o), (1, .int (nI n)), (3, .int (nI k))]) hx hb dd_M_some_40 rfl hl (by decide) rfl (fun ls hl => ?_)
            refine lv_iinc (v := nI (k + 1)) (lv' := [(3, .int (nI (k + 1))), (2, .int (nI 0)), (0, .ref o), (1, .int (nI n))]) hx hb dd_M_some_41 hl (k := 3) rfl (nI_add k 1) (by decide) rfl (fun ls hl => ?_)
            refine lv_goto (tgt := 4) hx hb dd_M_some_44 (by decide) ?_
            exact ih_4 (k + 1) (nI 0) (by omega) (by omega) (by first | exact Or.inr rfl | exact Or.inl rfl) (by first | exact ⟨fun q => absurd q (by decide), fun q => absurd (hs.mpr (fun x hx => q x (by omega))) c15⟩ | exact ⟨fun q => absurd q (by decide), fun q => absurd (q k (by omega)) c32⟩ | exact ⟨fun _ x hx => (show x < k ∨ x = k by omega).elim (fun h => (hs.mp c15) x h) (fun h => by rw [h]; exact c32), fun _ => nI_0⟩) H locs hP hD hS ls (lv_sub hl [2, 3, 1, 0] rfl)
          · skip
            refine lv_iconst (v := nI 1) hx hb dd_M_some_35 (by decide) ?_
            refine lv_goto (tgt := 40) hx hb dd_M_some_36 (by decide) ?_
            refine lv_istore_n (lv' := [(2, .int (nI 1)), (0, .ref o), (1, .int (nI n)), (3, .int (nI k))]) hx hb dd_M_some_40 rfl hl (by decide) rfl (fun ls hl => ?_)
            refine lv_iinc (v := nI (k + 1)) (lv' := [(3, .int (nI (k + 1))), (2, .int (nI 1)), (0, .ref o), (1, .int (nI n))]) hx hb dd_M_some_41 hl (k := 3) rfl (nI_add k 1) (by decide) rfl (fun ls hl => ?_)
            refine lv_goto (tgt := 4) hx hb dd_M_some_44 (by decide) ?_
            exact ih_4 (k + 1) (nI 1) (by omega) (by omega) (by first | exact Or.inr rfl | exact Or.inl rfl) (by first | exact ⟨fun q => absurd q (by decide), fun q => absurd (hs.mpr (fun x hx => q x (by omega))) c15⟩ | exact ⟨fun q => absurd q (by decide), fun q => absurd (q k (by omega)) c32⟩ | exact ⟨fun _ x hx => (show x < k ∨ x = k by omega).elim (fun h => (hs.mp c15) x h) (fun h => by rw [h]; exact c32), fun _ => nI_0⟩) H locs hP hD hS ls (lv_sub hl [2, 3, 1, 0] rfl)
  exact lp4 ((4 * bk - 0) + 1) 0 (nI 0) (Nat.lt_succ_self _) (by omega) (Or.inl rfl) (⟨fun _ x hx => absurd hx (Nat.not_lt_zero _), fun _ => nI_0⟩) H locs hP hD hS ls (lv_sub hl [2, 3, 1, 0] rfl)

theorem dd_M_end_0 : decode bb_M_end 0 = .ok (.iconst 0, 1) := by decide +kernel
theorem dd_M_end_1 : decode bb_M_end 1 = .ok (.istore_n 2, 1) := by decide +kernel
theorem dd_M_end_2 : decode bb_M_end 2 = .ok (.iload_n 2, 1) := by decide +kernel
theorem dd_M_end_3 : decode bb_M_end 3 = .ok (.iconst 4, 1) := by decide +kernel
theorem dd_M_end_4 : decode bb_M_end 4 = .ok (.if_icmp .ge (181), 3) := by decide +kernel
theorem dd_M_end_7 : decode bb_M_end 7 = .ok (.sipush (1608), 3) := by decide +kernel
theorem dd_M_end_10 : decode bb_M_end 10 = .ok (.iload_n 1, 1) := by decide +kernel
theorem dd_M_end_11 : decode bb_M_end 11 = .ok (.iconst 1, 1) := by decide +kernel
theorem dd_M_end_12 : decode bb_M_end 12 = .ok (.iand, 1) := by decide +kernel
theorem dd_M_end_13 : decode bb_M_end 13 = .ok (.imul, 1) := by decide +kernel
theorem dd_M_end_14 : decode bb_M_end 14 = .ok (.iconst 4, 1) := by decide +kernel
theorem dd_M_end_15 : decode bb_M_end 15 = .ok (.aload_n 0, 1) := by decide +kernel
theorem dd_M_end_16 : decode bb_M_end 16 = .ok (.getfield 95, 3) := by decide +kernel
theorem dd_M_end_19 : decode bb_M_end 19 = .ok (.iconst 1, 1) := by decide +kernel
theorem dd_M_end_20 : decode bb_M_end 20 = .ok (.isub, 1) := by decide +kernel
theorem dd_M_end_21 : decode bb_M_end 21 = .ok (.imul, 1) := by decide +kernel
theorem dd_M_end_22 : decode bb_M_end 22 = .ok (.iadd, 1) := by decide +kernel
theorem dd_M_end_23 : decode bb_M_end 23 = .ok (.iload_n 2, 1) := by decide +kernel
theorem dd_M_end_24 : decode bb_M_end 24 = .ok (.iadd, 1) := by decide +kernel
theorem dd_M_end_25 : decode bb_M_end 25 = .ok (.istore_n 3, 1) := by decide +kernel
theorem dd_M_end_26 : decode bb_M_end 26 = .ok (.aload_n 0, 1) := by decide +kernel
theorem dd_M_end_27 : decode bb_M_end 27 = .ok (.getfield 41, 3) := by decide +kernel
theorem dd_M_end_30 : decode bb_M_end 30 = .ok (.iload_n 3, 1) := by decide +kernel
theorem dd_M_end_31 : decode bb_M_end 31 = .ok (.baload, 1) := by decide +kernel
theorem dd_M_end_32 : decode bb_M_end 32 = .ok (.ifCond .ne (6), 3) := by decide +kernel
theorem dd_M_end_35 : decode bb_M_end 35 = .ok (.goto (144), 3) := by decide +kernel
theorem dd_M_end_38 : decode bb_M_end 38 = .ok (.aload_n 0, 1) := by decide +kernel
theorem dd_M_end_39 : decode bb_M_end 39 = .ok (.getfield 172, 3) := by decide +kernel
theorem dd_M_end_42 : decode bb_M_end 42 = .ok (.ifCond .eq (85), 3) := by decide +kernel
theorem dd_M_end_45 : decode bb_M_end 45 = .ok (.aload_n 0, 1) := by decide +kernel
theorem dd_M_end_46 : decode bb_M_end 46 = .ok (.getfield 45, 3) := by decide +kernel
theorem dd_M_end_49 : decode bb_M_end 49 = .ok (.iload_n 3, 1) := by decide +kernel
theorem dd_M_end_50 : decode bb_M_end 50 = .ok (.laload, 1) := by decide +kernel
theorem dd_M_end_51 : decode bb_M_end 51 = .ok (.aload_n 0, 1) := by decide +kernel
theorem dd_M_end_52 : decode bb_M_end 52 = .ok (.getfield 175, 3) := by decide +kernel
theorem dd_M_end_55 : decode bb_M_end 55 = .ok (.lcmp, 1) := by decide +kernel
theorem dd_M_end_56 : decode bb_M_end 56 = .ok (.ifCond .eq (20), 3) := by decide +kernel
theorem dd_M_end_59 : decode bb_M_end 59 = .ok (.aload_n 0, 1) := by decide +kernel
theorem dd_M_end_60 : decode bb_M_end 60 = .ok (.getfield 45, 3) := by decide +kernel
theorem dd_M_end_63 : decode bb_M_end 63 = .ok (.iload_n 3, 1) := by decide +kernel
theorem dd_M_end_64 : decode bb_M_end 64 = .ok (.laload, 1) := by decide +kernel
theorem dd_M_end_65 : decode bb_M_end 65 = .ok (.aload_n 0, 1) := by decide +kernel
theorem dd_M_end_66 : decode bb_M_end 66 = .ok (.getfield 175, 3) := by decide +kernel
theorem dd_M_end_69 : decode bb_M_end 69 = .ok (.lcmp, 1) := by decide +kernel
theorem dd_M_end_70 : decode bb_M_end 70 = .ok (.ifCond .ge (61), 3) := by decide +kernel
theorem dd_M_end_73 : decode bb_M_end 73 = .ok (.goto (54), 3) := by decide +kernel
theorem dd_M_end_76 : decode bb_M_end 76 = .ok (.aload_n 0, 1) := by decide +kernel
theorem dd_M_end_77 : decode bb_M_end 77 = .ok (.getfield 92, 3) := by decide +kernel
theorem dd_M_end_80 : decode bb_M_end 80 = .ok (.iconst 3, 1) := by decide +kernel
theorem dd_M_end_81 : decode bb_M_end 81 = .ok (.if_icmp .ne (32), 3) := by decide +kernel
theorem dd_M_end_84 : decode bb_M_end 84 = .ok (.aload_n 0, 1) := by decide +kernel
theorem dd_M_end_85 : decode bb_M_end 85 = .ok (.getfield 49, 3) := by decide +kernel
theorem dd_M_end_88 : decode bb_M_end 88 = .ok (.iload_n 3, 1) := by decide +kernel
theorem dd_M_end_89 : decode bb_M_end 89 = .ok (.iaload, 1) := by decide +kernel
theorem dd_M_end_90 : decode bb_M_end 90 = .ok (.aload_n 0, 1) := by decide +kernel
theorem dd_M_end_91 : decode bb_M_end 91 = .ok (.getfield 178, 3) := by decide +kernel
theorem dd_M_end_94 : decode bb_M_end 94 = .ok (.if_icmp .eq (19), 3) := by decide +kernel
theorem dd_M_end_97 : decode bb_M_end 97 = .ok (.aload_n 0, 1) := by decide +kernel
theorem dd_M_end_98 : decode bb_M_end 98 = .ok (.getfield 49, 3) := by decide +kernel
theorem dd_M_end_101 : decode bb_M_end 101 = .ok (.iload_n 3, 1) := by decide +kernel
theorem dd_M_end_102 : decode bb_M_end 102 = .ok (.iaload, 1) := by decide +kernel
theorem dd_M_end_103 : decode bb_M_end 103 = .ok (.aload_n 0, 1) := by decide +kernel
theorem dd_M_end_104 : decode bb_M_end 104 = .ok (.getfield 178, 3) := by decide +kernel
theorem dd_M_end_107 : decode bb_M_end 107 = .ok (.if_icmp .ge (24), 3) := by decide +kernel
theorem dd_M_end_110 : decode bb_M_end 110 = .ok (.goto (17), 3) := by decide +kernel
theorem dd_M_end_113 : decode bb_M_end 113 = .ok (.aload_n 0, 1) := by decide +kernel
theorem dd_M_end_114 : decode bb_M_end 114 = .ok (.getfield 52, 3) := by decide +kernel
theorem dd_M_end_117 : decode bb_M_end 117 = .ok (.iload_n 3, 1) := by decide +kernel
theorem dd_M_end_118 : decode bb_M_end 118 = .ok (.laload, 1) := by decide +kernel
theorem dd_M_end_119 : decode bb_M_end 119 = .ok (.aload_n 0, 1) := by decide +kernel
theorem dd_M_end_120 : decode bb_M_end 120 = .ok (.getfield 181, 3) := by decide +kernel
theorem dd_M_end_123 : decode bb_M_end 123 = .ok (.lcmp, 1) := by decide +kernel
theorem dd_M_end_124 : decode bb_M_end 124 = .ok (.ifCond .ge (7), 3) := by decide +kernel
theorem dd_M_end_127 : decode bb_M_end 127 = .ok (.iconst 1, 1) := by decide +kernel
theorem dd_M_end_128 : decode bb_M_end 128 = .ok (.goto (4), 3) := by decide +kernel
theorem dd_M_end_131 : decode bb_M_end 131 = .ok (.iconst 0, 1) := by decide +kernel
theorem dd_M_end_132 : decode bb_M_end 132 = .ok (.istore 4, 2) := by decide +kernel
theorem dd_M_end_134 : decode bb_M_end 134 = .ok (.iload 4, 2) := by decide +kernel
theorem dd_M_end_136 : decode bb_M_end 136 = .ok (.ifCond .eq (43), 3) := by decide +kernel
theorem dd_M_end_139 : decode bb_M_end 139 = .ok (.aload_n 0, 1) := by decide +kernel
theorem dd_M_end_140 : decode bb_M_end 140 = .ok (.iload_n 1, 1) := by decide +kernel
theorem dd_M_end_141 : decode bb_M_end 141 = .ok (.putfield 172, 3) := by decide +kernel
theorem dd_M_end_144 : decode bb_M_end 144 = .ok (.aload_n 0, 1) := by decide +kernel
theorem dd_M_end_145 : decode bb_M_end 145 = .ok (.iload_n 2, 1) := by decide +kernel
theorem dd_M_end_146 : decode bb_M_end 146 = .ok (.putfield 184, 3) := by decide +kernel
theorem dd_M_end_149 : decode bb_M_end 149 = .ok (.aload_n 0, 1) := by decide +kernel
theorem dd_M_end_150 : decode bb_M_end 150 = .ok (.aload_n 0, 1) := by decide +kernel
theorem dd_M_end_151 : decode bb_M_end 151 = .ok (.getfield 45, 3) := by decide +kernel
theorem dd_M_end_154 : decode bb_M_end 154 = .ok (.iload_n 3, 1) := by decide +kernel
theorem dd_M_end_155 : decode bb_M_end 155 = .ok (.laload, 1) := by decide +kernel
theorem dd_M_end_156 : decode bb_M_end 156 = .ok (.putfield 175, 3) := by decide +kernel
theorem dd_M_end_159 : decode bb_M_end 159 = .ok (.aload_n 0, 1) := by decide +kernel
theorem dd_M_end_160 : decode bb_M_end 160 = .ok (.aload_n 0, 1) := by decide +kernel
theorem dd_M_end_161 : decode bb_M_end 161 = .ok (.getfield 49, 3) := by decide +kernel
theorem dd_M_end_164 : decode bb_M_end 164 = .ok (.iload_n 3, 1) := by decide +kernel
theorem dd_M_end_165 : decode bb_M_end 165 = .ok (.iaload, 1) := by decide +kernel
theorem dd_M_end_166 : decode bb_M_end 166 = .ok (.putfield 178, 3) := by decide +kernel
theorem dd_M_end_169 : decode bb_M_end 169 = .ok (.aload_n 0, 1) := by decide +kernel
theorem dd_M_end_170 : decode bb_M_end 170 = .ok (.aload_n 0, 1) := by decide +kernel
theorem dd_M_end_171 : decode bb_M_end 171 = .ok (.getfield 52, 3) := by decide +kernel
theorem dd_M_end_174 : decode bb_M_end 174 = .ok (.iload_n 3, 1) := by decide +kernel
theorem dd_M_end_175 : decode bb_M_end 175 = .ok (.laload, 1) := by decide +kernel
theorem dd_M_end_176 : decode bb_M_end 176 = .ok (.putfield 181, 3) := by decide +kernel
theorem dd_M_end_179 : decode bb_M_end 179 = .ok (.iinc 2 (1), 3) := by decide +kernel
theorem dd_M_end_182 : decode bb_M_end 182 = .ok (.goto (-180), 3) := by decide +kernel
theorem dd_M_end_185 : decode bb_M_end 185 = .ok (.return_, 1) := by decide +kernel

set_option maxHeartbeats 4000000 in
set_option maxRecDepth 100000 in
theorem ct_M_end (l : Launch) (D : va_G) (cI cJ cZ : ClassId) (sz : Nat) (o : Nat) (th : Nat) (cn : Nat) (a0 : Nat) (a1 : Nat) (a2 : Nat) (a3 : Nat) (a4 : Nat) (a5 : Nat) (mn : Nat) (a6 : Nat) (a7 : Nat) (ps : Nat) (bk : Nat) (a8 : Nat) (a9 : Nat) (a10 : Nat) (a11 : Nat) (a12 : Nat) (a13 : Nat) (a14 : Nat) (a15 : Nat) (kf : Nat) (lb : Int32) (lc : Nat) (lo : Int64) (el : Nat) (ec : Nat) (eo : Int64) (eb : Int32) (ed : Int64) (mp : Nat) (ml : Nat) (md : Int64) (mo : Int64) (mb : Int32) (a16 : Nat) (a17 : Nat) (iz : Nat → Int32) (ou : Nat → Int64) (ba : Nat → Int32) (de : Nat → Int64) (n : Nat) (hn : n ≤ 400) (hbk : bk ≤ 400) (hbk1 : 1 ≤ bk) (hel0 : el ≤ 400) (hps : ps ≤ 3) : kx_Mv l yy_M_end ww_M_end ({ frames := 0, cells := 0, slots := 0, locals := 0 }) D vwCl (kx_ty cI cJ cZ) [.ref o, .int (nI n)] [(o, .inr (0, [.int (nI th), .int (nI cn), .ref a0, .ref a1, .ref a2, .ref a3, .ref a4, .ref a5, .int (nI mn), .ref a6, .ref a7, .int (nI ps), .int (nI bk), .ref a8, .ref a9, .ref a10, .ref a11, .ref a12, .ref a13, .ref a14, .ref a15, .int (nI kf), .int lb, .int (nI lc), .long lo, .int (nI el), .int (nI ec), .long eo, .int eb, .long ed, .int (nI mp), .int (nI ml), .long md, .long mo, .int mb, .ref a16, .ref a17])), (a9, .inl (cZ, 3216, .inl iz)), (a10, .inl (cJ, 3216, .inr (.inl ou))), (a11, .inl (cI, 3216, .inl ba)), (a12, .inl (cJ, 3216, .inr (.inl de)))] sz (fun (u : Nat × Nat × Int64 × Int32 × Int64) => (u.1, u.2.1, u.2.2.1, u.2.2.2.1, u.2.2.2.2) = pe_go ps n (pt_pv iz ou ba de (1608 * (n % 2) + 4 * (bk - 1))) (el, ec, eo, eb, ed) 4) (fun (u : Nat × Nat × Int64 × Int32 × Int64) => [(o, .inr (0, [.int (nI th), .int (nI cn), .ref a0, .ref a1, .ref a2, .ref a3, .ref a4, .ref a5, .int (nI mn), .ref a6, .ref a7, .int (nI ps), .int (nI bk), .ref a8, .ref a9, .ref a10, .ref a11, .ref a12, .ref a13, .ref a14, .ref a15, .int (nI kf), .int lb, .int (nI lc), .long lo, .int (nI u.1), .int (nI u.2.1), .long u.2.2.1, .int u.2.2.2.1, .long u.2.2.2.2, .int (nI mp), .int (nI ml), .long md, .long mo, .int mb, .ref a16, .ref a17])), (a9, .inl (cZ, 3216, .inl iz)), (a10, .inl (cJ, 3216, .inr (.inl ou))), (a11, .inl (cI, 3216, .inl ba)), (a12, .inl (cJ, 3216, .inr (.inl de)))]) 0 0 := by
  refine kx_startv (by decide) rfl (Nat.le_of_ble_eq_true rfl) ?_
  intro p e s m below meth c A ls hx hb hr hml hts hown hlocks hin hP hK hN hD hA hS hl
  have hl : lv_has ls 5 [(0, .ref o), (1, .int (nI n))] := hl
  have hown : s.vm.findClass rr_M = some m.cls := hown
  have lk0 := hts _ (kx_m kw_810)
  have hin0 : ∀ w ∈ u_ws rr_M tt_M 37, w ∈ ww_M_end := fun w h => kx_m (kf_M w h)
  have lk2 := hts _ (kx_m kw_812)
  have lk3 := hts _ (kx_m kw_823)
  have lk4 := hts _ (kx_m kw_813)
  have lk5 := hts _ (kx_m kw_825)
  have lk6 := hts _ (kx_m kw_809)
  have lk7 := hts _ (kx_m kw_815)
  have lk8 := hts _ (kx_m kw_827)
  have lk9 := hts _ (kx_m kw_814)
  have lk10 := hts _ (kx_m kw_826)
  have lk11 := hts _ (kx_m kw_824)
  obtain ⟨H, hH⟩ : ∃ H, H = s.heap := ⟨_, rfl⟩
  obtain ⟨locs, hlocs⟩ : ∃ z : List Loc, z = [] := ⟨_, rfl⟩
  have hP : va_P D vwCl [(o, .inr (0, [.int (nI th), .int (nI cn), .ref a0, .ref a1, .ref a2, .ref a3, .ref a4, .ref a5, .int (nI mn), .ref a6, .ref a7, .int (nI ps), .int (nI bk), .ref a8, .ref a9, .ref a10, .ref a11, .ref a12, .ref a13, .ref a14, .ref a15, .int (nI kf), .int lb, .int (nI lc), .long lo, .int (nI el), .int (nI ec), .long eo, .int eb, .long ed, .int (nI mp), .int (nI ml), .long md, .long mo, .int mb, .ref a16, .ref a17])), (a9, .inl (cZ, 3216, .inl iz)), (a10, .inl (cJ, 3216, .inr (.inl ou))), (a11, .inl (cI, 3216, .inl ba)), (a12, .inl (cJ, 3216, .inr (.inl de)))] H := by rw [hH]; exact hP
  have hS : va_S A s.heap H locs := by rw [hH, hlocs]; exact hS
  refine kx_gen hH hlocs ?_
  clear hH hlocs
  refine kx_nameQ (fun Q hQ => ?_)
  refine lv_iconst (v := nI 0) hx hb dd_M_end_0 (by decide) ?_
  refine lv_istore_n (lv' := [(2, .int (nI 0)), (0, .ref o), (1, .int (nI n))]) hx hb dd_M_end_1 rfl hl (by decide) rfl (fun ls hl => ?_)
  have lp2 : ∀ (N9_2 : Nat) (cx : Nat) (el1 : Nat) (ec1 : Nat) (eo1 : Int64) (eb1 : Int32) (ed1 : Int64), (4 - cx) < N9_2 → (cx ≤ 4) → ((el1, ec1, eo1, eb1, ed1) = pe_go ps n (pt_pv iz ou ba de (1608 * (n % 2) + 4 * (bk - 1))) (el, ec, eo, eb, ed) cx) → (el1 ≤ 400) → ∀ (H : Heap) (locs : List Loc), va_P D vwCl [(o, .inr (0, [.int (nI th), .int (nI cn), .ref a0, .ref a1, .ref a2, .ref a3, .ref a4, .ref a5, .int (nI mn), .ref a6, .ref a7, .int (nI ps), .int (nI bk), .ref a8, .ref a9, .ref a10, .ref a11, .ref a12, .ref a13, .ref a14, .ref a15, .int (nI kf), .int lb, .int (nI lc), .long lo, .int (nI el1), .int (nI ec1), .long eo1, .int eb1, .long ed1, .int (nI mp), .int (nI ml), .long md, .long mo, .int mb, .ref a16, .ref a17])), (a9, .inl (cZ, 3216, .inl iz)), (a10, .inl (cJ, 3216, .inr (.inl ou))), (a11, .inl (cI, 3216, .inl ba)), (a12, .inl (cJ, 3216, .inr (.inl de)))] H → va_D A [(o, .inr (0, [.int (nI th), .int (nI cn), .ref a0, .ref a1, .ref a2, .ref a3, .ref a4, .ref a5, .int (nI mn), .ref a6, .ref a7, .int (nI ps), .int (nI bk), .ref a8, .ref a9, .ref a10, .ref a11, .ref a12, .ref a13, .ref a14, .ref a15, .int (nI kf), .int lb, .int (nI lc), .long lo, .int (nI el1), .int (nI ec1), .long eo1, .int eb1, .long ed1, .int (nI mp), .int (nI ml), .long md, .long mo, .int mb, .ref a16, .ref a17])), (a9, .inl (cZ, 3216, .inl iz)), (a10, .inl (cJ, 3216, .inr (.inl ou))), (a11, .inl (cI, 3216, .inl ba)), (a12, .inl (cJ, 3216, .inr (.inl de)))] → va_S A s.heap H locs → ∀ (ls : Array Slot), lv_has ls 5 [(0, .ref o), (1, .int (nI n)), (2, .int (nI cx))] → W p l e (headSpec ww_M_end { frames := 0, cells := 0, slots := 0, locals := 0 }).room s m ([.ref o, .int (nI n)] : List Value).toArray below meth c H locs 0 0 Q (F0 m 2 ls []) := by
    clear hP hD hS hl
    intro N9_2
    induction N9_2 with
    | zero => intro _ _ _ _ _ _ h9; exact absurd h9 (Nat.not_lt_zero _)
    | succ N9_2 ih_2 =>
      intro cx el1 ec1 eo1 eb1 ed1 hμ_2 hcx hg hel H locs hP hD hS ls hl
      refine lv_iload_n hx hb dd_M_end_2 rfl (lv_at hl 2 rfl) ?_
      refine lv_iconst (v := nI 4) hx hb dd_M_end_3 (by decide) ?_
      refine lv_icmp_ge (tgt := 185) hx hb dd_M_end_4 (by decide) (fun c4 => ?_) (fun c4 => ?_)
      · skip
        have c4 : 4 ≤ cx := (nI_leI (by omega) (by omega)).mp c4
        rw [hQ]
        exact kx_vret hx hb hr hlocks hK hN hS dd_M_end_185 (el1, ec1, eo1, eb1, ed1) hP hD (by have h8 : cx = 4 := (by omega); rw [h8] at hg; exact hg)
      · skip
        have c4 : ¬ (4 ≤ cx) := fun h => c4 ((nI_leI (by omega) (by omega)).mpr h)
        refine lv_sipush (v := nI 1608) hx hb dd_M_end_7 (by decide) ?_
        refine lv_iload_n hx hb dd_M_end_10 rfl (lv_at hl 1 rfl) ?_
        refine lv_iconst (v := nI 1) hx hb dd_M_end_11 (by decide) ?_
        refine lv_iand hx hb dd_M_end_12 ?_
        refine kx_toN (n := n % 2) (kn_and1 (by omega)) ?_
        refine kx_imul hx hb dd_M_end_13 ?_
        refine lv_iconst (v := nI 4) hx hb dd_M_end_14 (by decide) ?_
        refine lv_aload_n hx hb dd_M_end_15 rfl (lv_at hl 0 rfl) ?_
        refine va_get (D := D) (ci := 0) (v := .int (nI bk)) (C := rr_M) (T := tt_M) (N := 37) hx hb hts hin0 hown hK hP 0 kg_5_0 rfl 12 (by decide) lk0 (fun _ h9 => h9) rfl dd_M_end_16 ?_
        refine lv_iconst (v := nI 1) hx hb dd_M_end_19 (by decide) ?_
        refine kx_isub hx hb dd_M_end_20 (by omega) ?_
        refine kx_imul hx hb dd_M_end_21 ?_
        refine kx_iadd hx hb dd_M_end_22 ?_
        refine lv_iload_n hx hb dd_M_end_23 rfl (lv_at hl 2 rfl) ?_
        refine kx_iadd hx hb dd_M_end_24 ?_
        refine lv_istore_n (lv' := [(3, .int (nI (((1608 * (n % 2)) + (4 * (bk - 1))) + cx))), (0, .ref o), (1, .int (nI n)), (2, .int (nI cx))]) hx hb dd_M_end_25 rfl hl (by decide) rfl (fun ls hl => ?_)
        refine lv_aload_n hx hb dd_M_end_26 rfl (lv_at hl 1 rfl) ?_
        refine va_get (D := D) (ci := 0) (v := .ref a9) (C := rr_M) (T := tt_M) (N := 37) hx hb hts hin0 hown hK hP 0 kg_5_0 rfl 14 (by decide) lk2 (fun _ h9 => h9) rfl dd_M_end_27 ?_
        refine lv_iload_n hx hb dd_M_end_30 rfl (lv_at hl 0 rfl) ?_
        refine kx_zald (q0 := 1) (t0 := 2) hx hb dd_M_end_31 hK hP kg_5_1 rfl (by omega) (by omega) ?_
        refine lv_if_ne (tgt := 38) hx hb dd_M_end_32 (by decide) (fun c32 => ?_) (fun c32 => ?_)
        · skip
          have hEs : (pt_pv iz ou ba de (1608 * (n % 2) + 4 * (bk - 1))) cx = some (ou (1608 * (n % 2) + 4 * (bk - 1) + cx), ba (1608 * (n % 2) + 4 * (bk - 1) + cx), de (1608 * (n % 2) + 4 * (bk - 1) + cx)) := if_neg c32
          refine lv_aload_n hx hb dd_M_end_38 rfl (lv_at hl 1 rfl) ?_
          refine va_get (D := D) (ci := 0) (v := .int (nI el1)) (C := rr_M) (T := tt_M) (N := 37) hx hb hts hin0 hown hK hP 0 kg_5_0 rfl 25 (by decide) lk3 (fun _ h9 => h9) rfl dd_M_end_39 ?_
          refine kx_joini (D := D) (cl := vwCl) (A := A) (ws := [(o, .inr (0, [.int (nI th), .int (nI cn), .ref a0, .ref a1, .ref a2, .ref a3, .ref a4, .ref a5, .int (nI mn), .ref a6, .ref a7, .int (nI ps), .int (nI bk), .ref a8, .ref a9, .ref a10, .ref a11, .ref a12, .ref a13, .ref a14, .ref a15, .int (nI kf), .int lb, .int (nI lc), .long lo, .int (nI el1), .int (nI ec1), .long eo1, .int eb1, .long ed1, .int (nI mp), .int (nI ml), .long md, .long mo, .int mb, .ref a16, .ref a17])), (a9, .inl (cZ, 3216, .inl iz)), (a10, .inl (cJ, 3216, .inr (.inl ou))), (a11, .inl (cI, 3216, .inl ba)), (a12, .inl (cJ, 3216, .inr (.inl de)))]) (Y := 132) (ls1 := ls) (st1 := []) (if el1 = 0 then (nI 1) else (if (ou (((1608 * (n % 2)) + (4 * (bk - 1))) + cx)) = eo1 then (if ps = 3 then (if (ba (((1608 * (n % 2)) + (4 * (bk - 1))) + cx)) = eb1 then (if ed1 ≤ (de (((1608 * (n % 2)) + (4 * (bk - 1))) + cx)) then (nI 0) else (nI 1)) else (if eb1 ≤ (ba (((1608 * (n % 2)) + (4 * (bk - 1))) + cx)) then (nI 0) else (nI 1))) else (if ed1 ≤ (de (((1608 * (n % 2)) + (4 * (bk - 1))) + cx)) then (nI 0) else (nI 1))) else (if eo1 ≤ (ou (((1608 * (n % 2)) + (4 * (bk - 1))) + cx)) then (nI 0) else (nI 1)))) (fun v132 H locs e_v132 hP hD hS => ?_) (fun K132 => ?_)
          · skip
            obtain rfl : v132 = kb_p (pe_bt el1 ps (ou (1608 * (n % 2) + 4 * (bk - 1) + cx)) eo1 (ba (1608 * (n % 2) + 4 * (bk - 1) + cx)) eb1 (de (1608 * (n % 2) + 4 * (bk - 1) + cx)) ed1) := by rw [e_v132]; unfold kb_p pe_bt; (repeat' split) <;> simp_all
            refine lv_istore (lv' := [(4, .int (kb_p (pe_bt el1 ps (ou (1608 * (n % 2) + 4 * (bk - 1) + cx)) eo1 (ba (1608 * (n % 2) + 4 * (bk - 1) + cx)) eb1 (de (1608 * (n % 2) + 4 * (bk - 1) + cx)) ed1))), (3, .int (nI (((1608 * (n % 2)) + (4 * (bk - 1))) + cx))), (0, .ref o), (1, .int (nI n)), (2, .int (nI cx))]) hx hb dd_M_end_132 hl (by decide) rfl (fun ls hl => ?_)
            refine lv_iload hx hb dd_M_end_134 (lv_at hl 0 rfl) ?_
            refine lv_if_eq (tgt := 179) hx hb dd_M_end_136 (by decide) (fun c136 => ?_) (fun c136 => ?_)
            · skip
              have c136 : ¬ (pe_bt el1 ps (ou (1608 * (n % 2) + 4 * (bk - 1) + cx)) eo1 (ba (1608 * (n % 2) + 4 * (bk - 1) + cx)) eb1 (de (1608 * (n % 2) + 4 * (bk - 1) + cx)) ed1) := kb_0.mp c136
              refine lv_iinc (v := nI (cx + 1)) (lv' := [(2, .int (nI (cx + 1))), (4, .int (kb_p (pe_bt el1 ps (ou (1608 * (n % 2) + 4 * (bk - 1) + cx)) eo1 (ba (1608 * (n % 2) + 4 * (bk - 1) + cx)) eb1 (de (1608 * (n % 2) + 4 * (bk - 1) + cx)) ed1))), (3, .int (nI (((1608 * (n % 2)) + (4 * (bk - 1))) + cx))), (0, .ref o), (1, .int (nI n))]) hx hb dd_M_end_179 hl (k := 4) rfl (nI_add cx 1) (by decide) rfl (fun ls hl => ?_)
              refine lv_goto (tgt := 2) hx hb dd_M_end_182 (by decide) ?_
              exact ih_2 (cx + 1) el1 ec1 eo1 eb1 ed1 (by omega) (by omega) (by first | exact pe_go_n hg hEn | exact pe_go_y hg hEs c136 | exact pe_go_k hg hEs c136) (by omega) H locs hP hD hS ls (lv_sub hl [3, 4, 0] rfl)
            · skip
              have c136 : pe_bt el1 ps (ou (1608 * (n % 2) + 4 * (bk - 1) + cx)) eo1 (ba (1608 * (n % 2) + 4 * (bk - 1) + cx)) eb1 (de (1608 * (n % 2) + 4 * (bk - 1) + cx)) ed1 := kb_1.mp c136
              refine lv_aload_n hx hb dd_M_end_139 rfl (lv_at hl 2 rfl) ?_
              refine lv_iload_n hx hb dd_M_end_140 rfl (lv_at hl 3 rfl) ?_
              refine va_put (D := D) (ci := 0) (v := .int (nI n)) (ty := .int) (C := rr_M) (T := tt_M) (N := 37) hx hb hts hin0 ft_M ft_M_ok nn_M hown hK hP hD hS 0 kg_5_0 rfl 25 (by decide) lk3 (fun _ h9 => h9) rfl (by decide +kernel) rfl rfl (Nat.le_of_ble_eq_true rfl) dd_M_end_141 (fun H locs hP hD hS => ?_)
              have hP : va_P D vwCl [(o, .inr (0, [.int (nI th), .int (nI cn), .ref a0, .ref a1, .ref a2, .ref a3, .ref a4, .ref a5, .int (nI mn), .ref a6, .ref a7, .int (nI ps), .int (nI bk), .ref a8, .ref a9, .ref a10, .ref a11, .ref a12, .ref a13, .ref a14, .ref a15, .int (nI kf), .int lb, .int (nI lc), .long lo, .int (nI n), .int (nI ec1), .long eo1, .int eb1, .long ed1, .int (nI mp), .int (nI ml), .long md, .long mo, .int mb, .ref a16, .ref a17])), (a9, .inl (cZ, 3216, .inl iz)), (a10, .inl (cJ, 3216, .inr (.inl ou))), (a11, .inl (cI, 3216, .inl ba)), (a12, .inl (cJ, 3216, .inr (.inl de)))] H := kx_cP kz_5_0 hP
              have hD : va_D A [(o, .inr (0, [.int (nI th), .int (nI cn), .ref a0, .ref a1, .ref a2, .ref a3, .ref a4, .ref a5, .int (nI mn), .ref a6, .ref a7, .int (nI ps), .int (nI bk), .ref a8, .ref a9, .ref a10, .ref a11, .ref a12, .ref a13, .ref a14, .ref a15, .int (nI kf), .int lb, .int (nI lc), .long lo, .int (nI n), .int (nI ec1), .long eo1, .int eb1, .long ed1, .int (nI mp), .int (nI ml), .long md, .long mo, .int mb, .ref a16, .ref a17])), (a9, .inl (cZ, 3216, .inl iz)), (a10, .inl (cJ, 3216, .inr (.inl ou))), (a11, .inl (cI, 3216, .inl ba)), (a12, .inl (cJ, 3216, .inr (.inl de)))] := kx_cD kz_5_0 hD
              refine lv_aload_n hx hb dd_M_end_144 rfl (lv_at hl 2 rfl) ?_
              refine lv_iload_n hx hb dd_M_end_145 rfl (lv_at hl 4 rfl) ?_
              refine va_put (D := D) (ci := 0) (v := .int (nI cx)) (ty := .int) (C := rr_M) (T := tt_M) (N := 37) hx hb hts hin0 ft_M ft_M_ok nn_M hown hK hP hD hS 0 kg_5_0 rfl 26 (by decide) lk11 (fun _ h9 => h9) rfl (by decide +kernel) rfl rfl (Nat.le_of_ble_eq_true rfl) dd_M_end_146 (fun H locs hP hD hS => ?_)
              have hP : va_P D vwCl [(o, .inr (0, [.int (nI th), .int (nI cn), .ref a0, .ref a1, .ref a2, .ref a3, .ref a4, .ref a5, .int (nI mn), .ref a6, .ref a7, .int (nI ps), .int (nI bk), .ref a8, .ref a9, .ref a10, .ref a11, .ref a12, .ref a13, .ref a14, .ref a15, .int (nI kf), .int lb, .int (nI lc), .long lo, .int (nI n), .int (nI cx), .long eo1, .int eb1, .long ed1, .int (nI mp), .int (nI ml), .long md, .long mo, .int mb, .ref a16, .ref a17])), (a9, .inl (cZ, 3216, .inl iz)), (a10, .inl (cJ, 3216, .inr (.inl ou))), (a11, .inl (cI, 3216, .inl ba)), (a12, .inl (cJ, 3216, .inr (.inl de)))] H := kx_cP kz_5_0 hP
              have hD : va_D A [(o, .inr (0, [.int (nI th), .int (nI cn), .ref a0, .ref a1, .ref a2, .ref a3, .ref a4, .ref a5, .int (nI mn), .ref a6, .ref a7, .int (nI ps), .int (nI bk), .ref a8, .ref a9, .ref a10, .ref a11, .ref a12, .ref a13, .ref a14, .ref a15, .int (nI kf), .int lb, .int (nI lc), .long lo, .int (nI n), .int (nI cx), .long eo1, .int eb1, .long ed1, .int (nI mp), .int (nI ml), .long md, .long mo, .int mb, .ref a16, .ref a17])), (a9, .inl (cZ, 3216, .inl iz)), (a10, .inl (cJ, 3216, .inr (.inl ou))), (a11, .inl (cI, 3216, .inl ba)), (a12, .inl (cJ, 3216, .inr (.inl de)))] := kx_cD kz_5_0 hD
              refine lv_aload_n hx hb dd_M_end_149 rfl (lv_at hl 2 rfl) ?_
              refine lv_aload_n hx hb dd_M_end_150 rfl (lv_at hl 2 rfl) ?_
              refine va_get (D := D) (ci := 0) (v := .ref a10) (C := rr_M) (T := tt_M) (N := 37) hx hb hts hin0 hown hK hP 0 kg_5_0 rfl 15 (by decide) lk4 (fun _ h9 => h9) rfl dd_M_end_151 ?_
              refine lv_iload_n hx hb dd_M_end_154 rfl (lv_at hl 1 rfl) ?_
              refine kx_lald (q0 := 2) (t0 := 1) hx hb dd_M_end_155 hK hP kg_5_2 rfl (by omega) (by omega) ?_
              refine va_put (D := D) (ci := 0) (v := .long (ou (((1608 * (n % 2)) + (4 * (bk - 1))) + cx))) (ty := .long) (C := rr_M) (T := tt_M) (N := 37) hx hb hts hin0 ft_M ft_M_ok nn_M hown hK hP hD hS 0 kg_5_0 rfl 27 (by decide) lk5 (fun _ h9 => h9) rfl (by decide +kernel) rfl rfl (Nat.le_of_ble_eq_true rfl) dd_M_end_156 (fun H locs hP hD hS => ?_)
              have hP : va_P D vwCl [(o, .inr (0, [.int (nI th), .int (nI cn), .ref a0, .ref a1, .ref a2, .ref a3, .ref a4, .ref a5, .int (nI mn), .ref a6, .ref a7, .int (nI ps), .int (nI bk), .ref a8, .ref a9, .ref a10, .ref a11, .ref a12, .ref a13, .ref a14, .ref a15, .int (nI kf), .int lb, .int (nI lc), .long lo, .int (nI n), .int (nI cx), .long (ou (((1608 * (n % 2)) + (4 * (bk - 1))) + cx)), .int eb1, .long ed1, .int (nI mp), .int (nI ml), .long md, .long mo, .int mb, .ref a16, .ref a17])), (a9, .inl (cZ, 3216, .inl iz)), (a10, .inl (cJ, 3216, .inr (.inl ou))), (a11, .inl (cI, 3216, .inl ba)), (a12, .inl (cJ, 3216, .inr (.inl de)))] H := kx_cP kz_5_0 hP
              have hD : va_D A [(o, .inr (0, [.int (nI th), .int (nI cn), .ref a0, .ref a1, .ref a2, .ref a3, .ref a4, .ref a5, .int (nI mn), .ref a6, .ref a7, .int (nI ps), .int (nI bk), .ref a8, .ref a9, .ref a10, .ref a11, .ref a12, .ref a13, .ref a14, .ref a15, .int (nI kf), .int lb, .int (nI lc), .long lo, .int (nI n), .int (nI cx), .long (ou (((1608 * (n % 2)) + (4 * (bk - 1))) + cx)), .int eb1, .long ed1, .int (nI mp), .int (nI ml), .long md, .long mo, .int mb, .ref a16, .ref a17])), (a9, .inl (cZ, 3216, .inl iz)), (a10, .inl (cJ, 3216, .inr (.inl ou))), (a11, .inl (cI, 3216, .inl ba)), (a12, .inl (cJ, 3216, .inr (.inl de)))] := kx_cD kz_5_0 hD
              refine lv_aload_n hx hb dd_M_end_159 rfl (lv_at hl 2 rfl) ?_
              refine lv_aload_n hx hb dd_M_end_160 rfl (lv_at hl 2 rfl) ?_
              refine va_get (D := D) (ci := 0) (v := .ref a11) (C := rr_M) (T := tt_M) (N := 37) hx hb hts hin0 hown hK hP 0 kg_5_0 rfl 16 (by decide) lk9 (fun _ h9 => h9) rfl dd_M_end_161 ?_
              refine lv_iload_n hx hb dd_M_end_164 rfl (lv_at hl 1 rfl) ?_
              refine kx_iald (q0 := 3) (t0 := 0) hx hb dd_M_end_165 hK hP kg_5_3 rfl (by omega) (by omega) ?_
              refine va_put (D := D) (ci := 0) (v := .int (ba (((1608 * (n % 2)) + (4 * (bk - 1))) + cx))) (ty := .int) (C := rr_M) (T := tt_M) (N := 37) hx hb hts hin0 ft_M ft_M_ok nn_M hown hK hP hD hS 0 kg_5_0 rfl 28 (by decide) lk10 (fun _ h9 => h9) rfl (by decide +kernel) rfl rfl (Nat.le_of_ble_eq_true rfl) dd_M_end_166 (fun H locs hP hD hS => ?_)
              have hP : va_P D vwCl [(o, .inr (0, [.int (nI th), .int (nI cn), .ref a0, .ref a1, .ref a2, .ref a3, .ref a4, .ref a5, .int (nI mn), .ref a6, .ref a7, .int (nI ps), .int (nI bk), .ref a8, .ref a9, .ref a10, .ref a11, .ref a12, .ref a13, .ref a14, .ref a15, .int (nI kf), .int lb, .int (nI lc), .long lo, .int (nI n), .int (nI cx), .long (ou (((1608 * (n % 2)) + (4 * (bk - 1))) + cx)), .int (ba (((1608 * (n % 2)) + (4 * (bk - 1))) + cx)), .long ed1, .int (nI mp), .int (nI ml), .long md, .long mo, .int mb, .ref a16, .ref a17])), (a9, .inl (cZ, 3216, .inl iz)), (a10, .inl (cJ, 3216, .inr (.inl ou))), (a11, .inl (cI, 3216, .inl ba)), (a12, .inl (cJ, 3216, .inr (.inl de)))] H := kx_cP kz_5_0 hP
              have hD : va_D A [(o, .inr (0, [.int (nI th), .int (nI cn), .ref a0, .ref a1, .ref a2, .ref a3, .ref a4, .ref a5, .int (nI mn), .ref a6, .ref a7, .int (nI ps), .int (nI bk), .ref a8, .ref a9, .ref a10, .ref a11, .ref a12, .ref a13, .ref a14, .ref a15, .int (nI kf), .int lb, .int (nI lc), .long lo, .int (nI n), .int (nI cx), .long (ou (((1608 * (n % 2)) + (4 * (bk - 1))) + cx)), .int (ba (((1608 * (n % 2)) + (4 * (bk - 1))) + cx)), .long ed1, .int (nI mp), .int (nI ml), .long md, .long mo, .int mb, .ref a16, .ref a17])), (a9, .inl (cZ, 3216, .inl iz)), (a10, .inl (cJ, 3216, .inr (.inl ou))), (a11, .inl (cI, 3216, .inl ba)), (a12, .inl (cJ, 3216, .inr (.inl de)))] := kx_cD kz_5_0 hD
              refine lv_aload_n hx hb dd_M_end_169 rfl (lv_at hl 2 rfl) ?_
              refine lv_aload_n hx hb dd_M_end_170 rfl (lv_at hl 2 rfl) ?_
              refine va_get (D := D) (ci := 0) (v := .ref a12) (C := rr_M) (T := tt_M) (N := 37) hx hb hts hin0 hown hK hP 0 kg_5_0 rfl 17 (by decide) lk7 (fun _ h9 => h9) rfl dd_M_end_171 ?_
              refine lv_iload_n hx hb dd_M_end_174 rfl (lv_at hl 1 rfl) ?_
              refine kx_lald (q0 := 4) (t0 := 1) hx hb dd_M_end_175 hK hP kg_5_4 rfl (by omega) (by omega) ?_
              refine va_put (D := D) (ci := 0) (v := .long (de (((1608 * (n % 2)) + (4 * (bk - 1))) + cx))) (ty := .long) (C := rr_M) (T := tt_M) (N := 37) hx hb hts hin0 ft_M ft_M_ok nn_M hown hK hP hD hS 0 kg_5_0 rfl 29 (by decide) lk8 (fun _ h9 => h9) rfl (by decide +kernel) rfl rfl (Nat.le_of_ble_eq_true rfl) dd_M_end_176 (fun H locs hP hD hS => ?_)
              have hP : va_P D vwCl [(o, .inr (0, [.int (nI th), .int (nI cn), .ref a0, .ref a1, .ref a2, .ref a3, .ref a4, .ref a5, .int (nI mn), .ref a6, .ref a7, .int (nI ps), .int (nI bk), .ref a8, .ref a9, .ref a10, .ref a11, .ref a12, .ref a13, .ref a14, .ref a15, .int (nI kf), .int lb, .int (nI lc), .long lo, .int (nI n), .int (nI cx), .long (ou (((1608 * (n % 2)) + (4 * (bk - 1))) + cx)), .int (ba (((1608 * (n % 2)) + (4 * (bk - 1))) + cx)), .long (de (((1608 * (n % 2)) + (4 * (bk - 1))) + cx)), .int (nI mp), .int (nI ml), .long md, .long mo, .int mb, .ref a16, .ref a17])), (a9, .inl (cZ, 3216, .inl iz)), (a10, .inl (cJ, 3216, .inr (.inl ou))), (a11, .inl (cI, 3216, .inl ba)), (a12, .inl (cJ, 3216, .inr (.inl de)))] H := kx_cP kz_5_0 hP
              have hD : va_D A [(o, .inr (0, [.int (nI th), .int (nI cn), .ref a0, .ref a1, .ref a2, .ref a3, .ref a4, .ref a5, .int (nI mn), .ref a6, .ref a7, .int (nI ps), .int (nI bk), .ref a8, .ref a9, .ref a10, .ref a11, .ref a12, .ref a13, .ref a14, .ref a15, .int (nI kf), .int lb, .int (nI lc), .long lo, .int (nI n), .int (nI cx), .long (ou (((1608 * (n % 2)) + (4 * (bk - 1))) + cx)), .int (ba (((1608 * (n % 2)) + (4 * (bk - 1))) + cx)), .long (de (((1608 * (n % 2)) + (4 * (bk - 1))) + cx)), .int (nI mp), .int (nI ml), .long md, .long mo, .int mb, .ref a16, .ref a17])), (a9, .inl (cZ, 3216, .inl iz)), (a10, .inl (cJ, 3216, .inr (.inl ou))), (a11, .inl (cI, 3216, .inl ba)), (a12, .inl (cJ, 3216, .inr (.inl de)))] := kx_cD kz_5_0 hD
              refine lv_iinc (v := nI (cx + 1)) (lv' := [(2, .int (nI (cx + 1))), (4, .int (kb_p (pe_bt el1 ps (ou (1608 * (n % 2) + 4 * (bk - 1) + cx)) eo1 (ba (1608 * (n % 2) + 4 * (bk - 1) + cx)) eb1 (de (1608 * (n % 2) + 4 * (bk - 1) + cx)) ed1))), (3, .int (nI (((1608 * (n % 2)) + (4 * (bk - 1))) + cx))), (0, .ref o), (1, .int (nI n))]) hx hb dd_M_end_179 hl (k := 4) rfl (nI_add cx 1) (by decide) rfl (fun ls hl => ?_)
              refine lv_goto (tgt := 2) hx hb dd_M_end_182 (by decide) ?_
              exact ih_2 (cx + 1) n cx (ou (((1608 * (n % 2)) + (4 * (bk - 1))) + cx)) (ba (((1608 * (n % 2)) + (4 * (bk - 1))) + cx)) (de (((1608 * (n % 2)) + (4 * (bk - 1))) + cx)) (by omega) (by omega) (by first | exact pe_go_n hg hEn | exact pe_go_y hg hEs c136 | exact pe_go_k hg hEs c136) (by omega) H locs hP hD hS ls (lv_sub hl [3, 4, 0] rfl)
          · skip
            refine lv_if_eq (tgt := 127) hx hb dd_M_end_42 (by decide) (fun c42 => ?_) (fun c42 => ?_)
            · skip
              have c42 : el1 = 0 := (kn_eq0 (by omega)).mp c42
              refine lv_iconst (v := nI 1) hx hb dd_M_end_127 (by decide) ?_
              refine lv_goto (tgt := 132) hx hb dd_M_end_128 (by decide) ?_
              exact K132 _ H locs (by rw [if_pos c42]) hP hD hS
            · skip
              have c42 : ¬ (el1 = 0) := fun h => c42 ((kn_eq0 (by omega)).mpr h)
              refine lv_aload_n hx hb dd_M_end_45 rfl (lv_at hl 1 rfl) ?_
              refine va_get (D := D) (ci := 0) (v := .ref a10) (C := rr_M) (T := tt_M) (N := 37) hx hb hts hin0 hown hK hP 0 kg_5_0 rfl 15 (by decide) lk4 (fun _ h9 => h9) rfl dd_M_end_46 ?_
              refine lv_iload_n hx hb dd_M_end_49 rfl (lv_at hl 0 rfl) ?_
              refine kx_lald (q0 := 2) (t0 := 1) hx hb dd_M_end_50 hK hP kg_5_2 rfl (by omega) (by omega) ?_
              refine lv_aload_n hx hb dd_M_end_51 rfl (lv_at hl 1 rfl) ?_
              refine va_get (D := D) (ci := 0) (v := .long eo1) (C := rr_M) (T := tt_M) (N := 37) hx hb hts hin0 hown hK hP 0 kg_5_0 rfl 27 (by decide) lk5 (fun _ h9 => h9) rfl dd_M_end_52 ?_
              refine W.lcmp hx hb dd_M_end_55 ?_
              refine lv_if_eq (tgt := 76) hx hb dd_M_end_56 (by decide) (fun c56 => ?_) (fun c56 => ?_)
              · skip
                have c56 := (lg_cmp_eq _ _).mp c56
                refine lv_aload_n hx hb dd_M_end_76 rfl (lv_at hl 1 rfl) ?_
                refine va_get (D := D) (ci := 0) (v := .int (nI ps)) (C := rr_M) (T := tt_M) (N := 37) hx hb hts hin0 hown hK hP 0 kg_5_0 rfl 11 (by decide) lk6 (fun _ h9 => h9) rfl dd_M_end_77 ?_
                refine lv_iconst (v := nI 3) hx hb dd_M_end_80 (by decide) ?_
                refine lv_icmp_ne (tgt := 113) hx hb dd_M_end_81 (by decide) (fun c81 => ?_) (fun c81 => ?_)
                · skip
                  have c81 : ¬ (ps = 3) := fun h => c81 ((nI_eq (by omega) (by omega)).mpr h)
                  refine lv_aload_n hx hb dd_M_end_113 rfl (lv_at hl 1 rfl) ?_
                  refine va_get (D := D) (ci := 0) (v := .ref a12) (C := rr_M) (T := tt_M) (N := 37) hx hb hts hin0 hown hK hP 0 kg_5_0 rfl 17 (by decide) lk7 (fun _ h9 => h9) rfl dd_M_end_114 ?_
                  refine lv_iload_n hx hb dd_M_end_117 rfl (lv_at hl 0 rfl) ?_
                  refine kx_lald (q0 := 4) (t0 := 1) hx hb dd_M_end_118 hK hP kg_5_4 rfl (by omega) (by omega) ?_
                  refine lv_aload_n hx hb dd_M_end_119 rfl (lv_at hl 1 rfl) ?_
                  refine va_get (D := D) (ci := 0) (v := .long ed1) (C := rr_M) (T := tt_M) (N := 37) hx hb hts hin0 hown hK hP 0 kg_5_0 rfl 29 (by decide) lk8 (fun _ h9 => h9) rfl dd_M_end_120 ?_
                  refine W.lcmp hx hb dd_M_end_123 ?_
                  refine lv_if_ge (tgt := 131) hx hb dd_M_end_124 (by decide) (fun c124 => ?_) (fun c124 => ?_)
                  · skip
                    have c124 := (lg_cmp_ge _ _).mp c124
                    refine lv_iconst (v := nI 0) hx hb dd_M_end_131 (by decide) ?_
                    exact K132 _ H locs (by rw [if_neg c42, if_pos c56, if_neg c81, if_pos c124]) hP hD hS
                  · skip
                    have c124 : ¬ (ed1 ≤ (de (((1608 * (n % 2)) + (4 * (bk - 1))) + cx))) := fun h => c124 ((lg_cmp_ge _ _).mpr h)
                    refine lv_iconst (v := nI 1) hx hb dd_M_end_127 (by decide) ?_
                    refine lv_goto (tgt := 132) hx hb dd_M_end_128 (by decide) ?_
                    exact K132 _ H locs (by rw [if_neg c42, if_pos c56, if_neg c81, if_neg c124]) hP hD hS
                · skip
                  have c81 : ps = 3 := (nI_eq (by omega) (by omega)).mp c81
                  refine lv_aload_n hx hb dd_M_end_84 rfl (lv_at hl 1 rfl) ?_
                  refine va_get (D := D) (ci := 0) (v := .ref a11) (C := rr_M) (T := tt_M) (N := 37) hx hb hts hin0 hown hK hP 0 kg_5_0 rfl 16 (by decide) lk9 (fun _ h9 => h9) rfl dd_M_end_85 ?_
                  refine lv_iload_n hx hb dd_M_end_88 rfl (lv_at hl 0 rfl) ?_
                  refine kx_iald (q0 := 3) (t0 := 0) hx hb dd_M_end_89 hK hP kg_5_3 rfl (by omega) (by omega) ?_
                  refine lv_aload_n hx hb dd_M_end_90 rfl (lv_at hl 1 rfl) ?_
                  refine va_get (D := D) (ci := 0) (v := .int eb1) (C := rr_M) (T := tt_M) (N := 37) hx hb hts hin0 hown hK hP 0 kg_5_0 rfl 28 (by decide) lk10 (fun _ h9 => h9) rfl dd_M_end_91 ?_
                  refine lv_icmp_eq (tgt := 113) hx hb dd_M_end_94 (by decide) (fun c94 => ?_) (fun c94 => ?_)
                  · skip
                    refine lv_aload_n hx hb dd_M_end_113 rfl (lv_at hl 1 rfl) ?_
                    refine va_get (D := D) (ci := 0) (v := .ref a12) (C := rr_M) (T := tt_M) (N := 37) hx hb hts hin0 hown hK hP 0 kg_5_0 rfl 17 (by decide) lk7 (fun _ h9 => h9) rfl dd_M_end_114 ?_
                    refine lv_iload_n hx hb dd_M_end_117 rfl (lv_at hl 0 rfl) ?_
                    refine kx_lald (q0 := 4) (t0 := 1) hx hb dd_M_end_118 hK hP kg_5_4 rfl (by omega) (by omega) ?_
                    refine lv_aload_n hx hb dd_M_end_119 rfl (lv_at hl 1 rfl) ?_
                    refine va_get (D := D) (ci := 0) (v := .long ed1) (C := rr_M) (T := tt_M) (N := 37) hx hb hts hin0 hown hK hP 0 kg_5_0 rfl 29 (by decide) lk8 (fun _ h9 => h9) rfl dd_M_end_120 ?_
                    refine W.lcmp hx hb dd_M_end_123 ?_
                    refine lv_if_ge (tgt := 131) hx hb dd_M_end_124 (by decide) (fun c124 => ?_) (fun c124 => ?_)
                    · skip
                      have c124 := (lg_cmp_ge _ _).mp c124
                      refine lv_iconst (v := nI 0) hx hb dd_M_end_131 (by decide) ?_
                      exact K132 _ H locs (by rw [if_neg c42, if_pos c56, if_pos c81, if_pos c94, if_pos c124]) hP hD hS
                    · skip
                      have c124 : ¬ (ed1 ≤ (de (((1608 * (n % 2)) + (4 * (bk - 1))) + cx))) := fun h => c124 ((lg_cmp_ge _ _).mpr h)
                      refine lv_iconst (v := nI 1) hx hb dd_M_end_127 (by decide) ?_
                      refine lv_goto (tgt := 132) hx hb dd_M_end_128 (by decide) ?_
                      exact K132 _ H locs (by rw [if_neg c42, if_pos c56, if_pos c81, if_pos c94, if_neg c124]) hP hD hS
                  · skip
                    refine lv_aload_n hx hb dd_M_end_97 rfl (lv_at hl 1 rfl) ?_
                    refine va_get (D := D) (ci := 0) (v := .ref a11) (C := rr_M) (T := tt_M) (N := 37) hx hb hts hin0 hown hK hP 0 kg_5_0 rfl 16 (by decide) lk9 (fun _ h9 => h9) rfl dd_M_end_98 ?_
                    refine lv_iload_n hx hb dd_M_end_101 rfl (lv_at hl 0 rfl) ?_
                    refine kx_iald (q0 := 3) (t0 := 0) hx hb dd_M_end_102 hK hP kg_5_3 rfl (by omega) (by omega) ?_
                    refine lv_aload_n hx hb dd_M_end_103 rfl (lv_at hl 1 rfl) ?_
                    refine va_get (D := D) (ci := 0) (v := .int eb1) (C := rr_M) (T := tt_M) (N := 37) hx hb hts hin0 hown hK hP 0 kg_5_0 rfl 28 (by decide) lk10 (fun _ h9 => h9) rfl dd_M_end_104 ?_
                    refine lv_icmp_ge (tgt := 131) hx hb dd_M_end_107 (by decide) (fun c107 => ?_) (fun c107 => ?_)
                    · skip
                      refine lv_iconst (v := nI 0) hx hb dd_M_end_131 (by decide) ?_
                      exact K132 _ H locs (by rw [if_neg c42, if_pos c56, if_pos c81, if_neg c94, if_pos c107]) hP hD hS
                    · skip
                      refine lv_goto (tgt := 127) hx hb dd_M_end_110 (by decide) ?_
                      refine lv_iconst (v := nI 1) hx hb dd_M_end_127 (by decide) ?_
                      refine lv_goto (tgt := 132) hx hb dd_M_end_128 (by decide) ?_
                      exact K132 _ H locs (by rw [if_neg c42, if_pos c56, if_pos c81, if_neg c94, if_neg c107]) hP hD hS
              · skip
                have c56 : ¬ ((ou (((1608 * (n % 2)) + (4 * (bk - 1))) + cx)) = eo1) := fun h => c56 ((lg_cmp_eq _ _).mpr h)
                refine lv_aload_n hx hb dd_M_end_59 rfl (lv_at hl 1 rfl) ?_
                refine va_get (D := D) (ci := 0) (v := .ref a10) (C := rr_M) (T := tt_M) (N := 37) hx hb hts hin0 hown hK hP 0 kg_5_0 rfl 15 (by decide) lk4 (fun _ h9 => h9) rfl dd_M_end_60 ?_
                refine lv_iload_n hx hb dd_M_end_63 rfl (lv_at hl 0 rfl) ?_
                refine kx_lald (q0 := 2) (t0 := 1) hx hb dd_M_end_64 hK hP kg_5_2 rfl (by omega) (by omega) ?_
                refine lv_aload_n hx hb dd_M_end_65 rfl (lv_at hl 1 rfl) ?_
                refine va_get (D := D) (ci := 0) (v := .long eo1) (C := rr_M) (T := tt_M) (N := 37) hx hb hts hin0 hown hK hP 0 kg_5_0 rfl 27 (by decide) lk5 (fun _ h9 => h9) rfl dd_M_end_66 ?_
                refine W.lcmp hx hb dd_M_end_69 ?_
                refine lv_if_ge (tgt := 131) hx hb dd_M_end_70 (by decide) (fun c70 => ?_) (fun c70 => ?_)
                · skip
                  have c70 := (lg_cmp_ge _ _).mp c70
                  refine lv_iconst (v := nI 0) hx hb dd_M_end_131 (by decide) ?_
                  exact K132 _ H locs (by rw [if_neg c42, if_neg c56, if_pos c70]) hP hD hS
                · skip
                  have c70 : ¬ (eo1 ≤ (ou (((1608 * (n % 2)) + (4 * (bk - 1))) + cx))) := fun h => c70 ((lg_cmp_ge _ _).mpr h)
                  refine lv_goto (tgt := 127) hx hb dd_M_end_73 (by decide) ?_
                  refine lv_iconst (v := nI 1) hx hb dd_M_end_127 (by decide) ?_
                  refine lv_goto (tgt := 132) hx hb dd_M_end_128 (by decide) ?_
                  exact K132 _ H locs (by rw [if_neg c42, if_neg c56, if_neg c70]) hP hD hS
        · skip
          have hEn : (pt_pv iz ou ba de (1608 * (n % 2) + 4 * (bk - 1))) cx = none := if_pos c32
          refine lv_goto (tgt := 179) hx hb dd_M_end_35 (by decide) ?_
          refine lv_iinc (v := nI (cx + 1)) (lv' := [(2, .int (nI (cx + 1))), (3, .int (nI (((1608 * (n % 2)) + (4 * (bk - 1))) + cx))), (0, .ref o), (1, .int (nI n))]) hx hb dd_M_end_179 hl (k := 3) rfl (nI_add cx 1) (by decide) rfl (fun ls hl => ?_)
          refine lv_goto (tgt := 2) hx hb dd_M_end_182 (by decide) ?_
          exact ih_2 (cx + 1) el1 ec1 eo1 eb1 ed1 (by omega) (by omega) (by first | exact pe_go_n hg hEn | exact pe_go_y hg hEs c136 | exact pe_go_k hg hEs c136) (by omega) H locs hP hD hS ls (lv_sub hl [2, 3, 0] rfl)
  exact lp2 ((4 - 0) + 1) 0 el ec eo eb ed (Nat.lt_succ_self _) (by omega) rfl (by omega) H locs hP hD hS ls (lv_sub hl [1, 2, 0] rfl)
