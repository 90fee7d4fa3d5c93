theorem kt_4_0_1_2_3 {c0 c1 c2 c3 : Nat × va_E} : ([0, 1, 2, 3] : List Nat).filterMap (fun i => ([c0, c1, c2, c3] : va_W)[i]?) = ([c0, c1, c2, c3] : va_W) := rfl
theorem ks_4_0_1_2_3 {c0 c1 c2 c3 : Nat × va_E} : ([0, 1, 2, 3] : List Nat).map (fun i => ([c0, c1, c2, c3] : va_W)[i]?) = ([c0, c1, c2, c3] : va_W).map some := rfl
theorem ks_4_ {c0 c1 c2 c3 : Nat × va_E} : ([] : List Nat).map (fun i => ([c0, c1, c2, c3] : va_W)[i]?) = ([] : va_W).map some := rfl
theorem kz_4_1 {c0 c1 c2 c3 : Nat × va_E} {x : Nat × va_E} : ([c0, c1, c2, c3] : va_W).set 1 x = [c0, x, c2, c3] := rfl
theorem kz_4_2 {c0 c1 c2 c3 : Nat × va_E} {x : Nat × va_E} : ([c0, c1, c2, c3] : va_W).set 2 x = [c0, c1, x, c3] := rfl
theorem kz_4_3 {c0 c1 c2 c3 : Nat × va_E} {x : Nat × va_E} : ([c0, c1, c2, c3] : va_W).set 3 x = [c0, c1, c2, x] := rfl
theorem kw_137 : Cond.fieldLink rr_It (18) "LineDesk$Items" "ahead" "[I" ∈ kx_T := kx_in (i := 137) (by decide +kernel) (by decide +kernel)
theorem kw_139 : Cond.fieldLink rr_It (21) "LineDesk$Items" "behind" "[I" ∈ kx_T := kx_in (i := 139) (by decide +kernel) (by decide +kernel)
theorem kw_144 : Cond.fieldLink rr_It (31) "LineDesk$Items" "stretch" "[J" ∈ kx_T := kx_in (i := 144) (by decide +kernel) (by decide +kernel)
theorem kw_146 : Cond.fieldLink rr_It (34) "LineDesk$Items" "highStretch" "[J" ∈ kx_T := kx_in (i := 146) (by decide +kernel) (by decide +kernel)
theorem kw_148 : Cond.fieldLink rr_It (37) "LineDesk$Items" "shrink" "[J" ∈ kx_T := kx_in (i := 148) (by decide +kernel) (by decide +kernel)
theorem kw_588 : Cond.methodLink rr_It (72) yy_It_mayBreakAt ∈ kx_T := kx_in (i := 588) (by decide +kernel) (by decide +kernel)
theorem kw_589 : Cond.instanceMethod yy_It_mayBreakAt ∈ kx_T := kx_in (i := 589) (by decide +kernel) (by decide +kernel)
theorem kw_590 : Cond.selects rr_It yy_It_mayBreakAt yy_It_mayBreakAt ∈ kx_T := kx_in (i := 590) (by decide +kernel) (by decide +kernel)
set_option maxRecDepth 100000 in
theorem kw_591 : Cond.code yy_It_mayBreakAt bb_It_mayBreakAt 3 (some .boolean) ∈ kx_T := kx_in (i := 591) rfl (by decide +kernel)
theorem dd_It_countBreaks_0 : decode bb_It_countBreaks 0 = .ok (.iconst 1, 1) := by decide +kernel
theorem dd_It_countBreaks_1 : decode bb_It_countBreaks 1 = .ok (.istore_n 1, 1) := by decide +kernel
theorem dd_It_countBreaks_2 : decode bb_It_countBreaks 2 = .ok (.iconst 0, 1) := by decide +kernel
theorem dd_It_countBreaks_3 : decode bb_It_countBreaks 3 = .ok (.istore_n 2, 1) := by decide +kernel
theorem dd_It_countBreaks_4 : decode bb_It_countBreaks 4 = .ok (.iload_n 2, 1) := by decide +kernel
theorem dd_It_countBreaks_5 : decode bb_It_countBreaks 5 = .ok (.aload_n 0, 1) := by decide +kernel
theorem dd_It_countBreaks_6 : decode bb_It_countBreaks 6 = .ok (.getfield 40, 3) := by decide +kernel
theorem dd_It_countBreaks_9 : decode bb_It_countBreaks 9 = .ok (.if_icmp .ge (21), 3) := by decide +kernel
theorem dd_It_countBreaks_12 : decode bb_It_countBreaks 12 = .ok (.aload_n 0, 1) := by decide +kernel
theorem dd_It_countBreaks_13 : decode bb_It_countBreaks 13 = .ok (.iload_n 2, 1) := by decide +kernel
theorem dd_It_countBreaks_14 : decode bb_It_countBreaks 14 = .ok (.iconst 1, 1) := by decide +kernel
theorem dd_It_countBreaks_15 : decode bb_It_countBreaks 15 = .ok (.invokevirtual 72, 3) := by decide +kernel
theorem dd_It_countBreaks_18 : decode bb_It_countBreaks 18 = .ok (.ifCond .eq (6), 3) := by decide +kernel
theorem dd_It_countBreaks_21 : decode bb_It_countBreaks 21 = .ok (.iinc 1 (1), 3) := by decide +kernel
theorem dd_It_countBreaks_24 : decode bb_It_countBreaks 24 = .ok (.iinc 2 (1), 3) := by decide +kernel
theorem dd_It_countBreaks_27 : decode bb_It_countBreaks 27 = .ok (.goto (-23), 3) := by decide +kernel
theorem dd_It_countBreaks_30 : decode bb_It_countBreaks 30 = .ok (.iload_n 1, 1) := by decide +kernel
theorem dd_It_countBreaks_31 : decode bb_It_countBreaks 31 = .ok (.ireturn, 1) := by decide +kernel

set_option maxHeartbeats 4000000 in
set_option maxRecDepth 100000 in
theorem ct_It_countBreaks (l : Launch) (D : va_G) (cI cJ cZ : ClassId) (sz : Nat) (t : Nat) (cn : Nat) (i1 : Nat) (i2 : Nat) (i3 : Nat) (i4 : Nat) (i5 : Nat) (i6 : Nat) (i7 : Nat) (i8 : Nat) (i9 : Nat) (ln : Nat) (ik : Nat → Int32) (ic : Nat → Int32) (if_ : Nat → Int32) (hc : cn ≤ ln) (hln : ln < 2 ^ 30) : kx_Mi l yy_It_countBreaks ww_It_countBreaks ({ frames := 3, cells := 0, slots := 0, locals := 66 }) D vwCl (kx_ty cI cJ cZ) [.ref t] [(t, .inr (4, [.int (nI cn), .ref i1, .ref i2, .ref i3, .ref i4, .ref i5, .ref i6, .ref i7, .ref i8, .ref i9])), (i1, .inl (cI, ln, .inl ik)), (i2, .inl (cI, ln, .inl ic)), (i5, .inl (cI, ln, .inl if_))] sz (fun (r : Int32) (u : Unit) => r = nI (1 + pq_c (pk_br ik ic if_ cn (nI 1)) cn)) (fun (u : Unit) => [(t, .inr (4, [.int (nI cn), .ref i1, .ref i2, .ref i3, .ref i4, .ref i5, .ref i6, .ref i7, .ref i8, .ref i9])), (i1, .inl (cI, ln, .inl ik)), (i2, .inl (cI, ln, .inl ic)), (i5, .inl (cI, ln, .inl if_))]) 0 0 := by
  refine kx_starti (by decide) rfl (Nat.le_of_ble_eq_true rfl) ?_
  intro p e s m below meth c A ls hx hb hr hml hts hown hlocks hin hP hK hN hD hA hS hl
  have hl : lv_has ls 3 [(0, .ref t)] := hl
  have hown : s.vm.findClass rr_It = some m.cls := hown
  have lk0 := hts _ (kx_m kw_131)
  have hin4 : ∀ w ∈ u_ws rr_It tt_It 10, w ∈ ww_It_countBreaks := fun w h => kx_m (kf_It w h)
  obtain ⟨H, hH⟩ : ∃ H, H = s.heap := ⟨_, rfl⟩
  obtain ⟨locs, hlocs⟩ : ∃ z : List Loc, z = [] := ⟨_, rfl⟩
  have hP : va_P D vwCl [(t, .inr (4, [.int (nI cn), .ref i1, .ref i2, .ref i3, .ref i4, .ref i5, .ref i6, .ref i7, .ref i8, .ref i9])), (i1, .inl (cI, ln, .inl ik)), (i2, .inl (cI, ln, .inl ic)), (i5, .inl (cI, ln, .inl if_))] H := by rw [hH]; exact hP
  have hS : va_S A s.heap H locs := by rw [hH, hlocs]; exact hS
  refine kx_gen hH hlocs ?_
  clear hH hlocs
  refine kx_nameQ (fun Q hQ => ?_)
  refine lv_iconst (v := nI 1) hx hb dd_It_countBreaks_0 (by decide) ?_
  refine lv_istore_n (lv' := [(1, .int (nI 1)), (0, .ref t)]) hx hb dd_It_countBreaks_1 rfl hl (by decide) rfl (fun ls hl => ?_)
  refine lv_iconst (v := nI 0) hx hb dd_It_countBreaks_2 (by decide) ?_
  refine lv_istore_n (lv' := [(2, .int (nI 0)), (1, .int (nI 1)), (0, .ref t)]) hx hb dd_It_countBreaks_3 rfl hl (by decide) rfl (fun ls hl => ?_)
  have lp4 : ∀ (N9_4 : Nat) (b1 : Nat) (i : Nat), (cn - i) < N9_4 → (i ≤ cn) → (b1 = 1 + pq_c (pk_br ik ic if_ cn (nI 1)) i) → ∀ (H : Heap) (locs : List Loc), va_P D vwCl [(t, .inr (4, [.int (nI cn), .ref i1, .ref i2, .ref i3, .ref i4, .ref i5, .ref i6, .ref i7, .ref i8, .ref i9])), (i1, .inl (cI, ln, .inl ik)), (i2, .inl (cI, ln, .inl ic)), (i5, .inl (cI, ln, .inl if_))] H → va_D A [(t, .inr (4, [.int (nI cn), .ref i1, .ref i2, .ref i3, .ref i4, .ref i5, .ref i6, .ref i7, .ref i8, .ref i9])), (i1, .inl (cI, ln, .inl ik)), (i2, .inl (cI, ln, .inl ic)), (i5, .inl (cI, ln, .inl if_))] → va_S A s.heap H locs → ∀ (ls : Array Slot), lv_has ls 3 [(0, .ref t), (1, .int (nI b1)), (2, .int (nI i))] → W p l e (headSpec ww_It_countBreaks { frames := 3, cells := 0, slots := 0, locals := 66 }).room s m ([.ref t] : List Value).toArray below meth c H locs 0 0 Q (F0 m 4 ls []) := by
    clear hP hD hS hl
    intro N9_4
    induction N9_4 with
    | zero => intro _ _ h9; exact absurd h9 (Nat.not_lt_zero _)
    | succ N9_4 ih_4 =>
      intro b1 i hμ_4 hi hb1 H locs hP hD hS ls hl
      refine lv_iload_n hx hb dd_It_countBreaks_4 rfl (lv_at hl 2 rfl) ?_
      refine lv_aload_n hx hb dd_It_countBreaks_5 rfl (lv_at hl 0 rfl) ?_
      refine va_get (D := D) (ci := 4) (v := .int (nI cn)) (C := rr_It) (T := tt_It) (N := 10) hx hb hts hin4 hown hK hP 0 kg_4_0 rfl 0 (by decide) lk0 (fun _ h9 => h9) rfl dd_It_countBreaks_6 ?_
      refine lv_icmp_ge (tgt := 30) hx hb dd_It_countBreaks_9 (by decide) (fun c9 => ?_) (fun c9 => ?_)
      · skip
        have c9 : cn ≤ i := (nI_leI (by omega) (by omega)).mp c9
        refine lv_iload_n hx hb dd_It_countBreaks_30 rfl (lv_at hl 1 rfl) ?_
        rw [hQ]
        exact kx_iret hx hb hr hlocks hK hN hS dd_It_countBreaks_31 () hP hD (by rw [hb1, show i = cn by omega])
      · skip
        have c9 : ¬ (cn ≤ i) := fun h => c9 ((nI_leI (by omega) (by omega)).mpr h)
        refine lv_aload_n hx hb dd_It_countBreaks_12 rfl (lv_at hl 0 rfl) ?_
        refine lv_iload_n hx hb dd_It_countBreaks_13 rfl (lv_at hl 2 rfl) ?_
        refine lv_iconst (v := nI 1) hx hb dd_It_countBreaks_14 (by decide) ?_
        refine kx_calli (wr := []) (va_runV (C := rr_It) (As := [.int (nI i), .int (nI 1)]) (rest := []) ⟨hx, hb, hml, hown, hts⟩ (ct_It_mayBreakAt l D cI cJ cZ H.size t cn i1 i2 i3 i4 i5 i6 i7 i8 i9 ln ik ic if_ i (nI 1) (by omega) (by omega) (by omega)) ⟨(callB_of 2 hts (kx_good kw_591) rfl rfl rfl (hts _ (kx_m kw_47)) (hts _ (kx_m kw_588)) (by decide +kernel) ⟨Nat.le_of_ble_eq_true rfl, Nat.le_of_ble_eq_true rfl⟩), (hts _ (kx_m kw_589)), (hts _ (kx_m kw_590))⟩ (kx_preV (ci := 4) (q0 := 0) hK hN (hP.sub [0, 1, 2, 3] kt_4_0_1_2_3) (hD.sub [0, 1, 2, 3] (by decide) ks_4_0_1_2_3) rfl kg_4_0) rfl rfl hl.1 rfl (lv_room (Nat.le_of_ble_eq_true rfl)) dd_It_countBreaks_15 ⟨Nat.le_of_ble_eq_true rfl, Nat.le_of_ble_eq_true rfl⟩) hP hD hS hA [0, 1, 2, 3] [] ks_4_0_1_2_3 ks_4_ (by decide) (by decide) (fun r15 u15 H locs hw15 hP hD hS => ?_)
        have hP : va_P D vwCl [(t, .inr (4, [.int (nI cn), .ref i1, .ref i2, .ref i3, .ref i4, .ref i5, .ref i6, .ref i7, .ref i8, .ref i9])), (i1, .inl (cI, ln, .inl ik)), (i2, .inl (cI, ln, .inl ic)), (i5, .inl (cI, ln, .inl if_))] H := hP
        have hD : va_D A [(t, .inr (4, [.int (nI cn), .ref i1, .ref i2, .ref i3, .ref i4, .ref i5, .ref i6, .ref i7, .ref i8, .ref i9])), (i1, .inl (cI, ln, .inl ik)), (i2, .inl (cI, ln, .inl ic)), (i5, .inl (cI, ln, .inl if_))] := hD
        have hw15 : r15 = kb_p (pk_br ik ic if_ cn (nI 1) i) := hw15
        subst hw15
        refine lv_if_eq (tgt := 24) hx hb dd_It_countBreaks_18 (by decide) (fun c18 => ?_) (fun c18 => ?_)
        · skip
          have c18 : ¬ (pk_br ik ic if_ cn (nI 1) i) := kb_0.mp c18
          refine lv_iinc (v := nI (i + 1)) (lv' := [(2, .int (nI (i + 1))), (0, .ref t), (1, .int (nI b1))]) hx hb dd_It_countBreaks_24 hl (k := 2) rfl (nI_add i 1) (by decide) rfl (fun ls hl => ?_)
          refine lv_goto (tgt := 4) hx hb dd_It_countBreaks_27 (by decide) ?_
          exact ih_4 b1 (i + 1) (by omega) (by omega) (by first | (rw [pq_c_s c18, hb1]; omega) | (rw [pq_c_n c18]; exact hb1)) H locs hP hD hS ls (lv_sub hl [1, 2, 0] rfl)
        · skip
          have c18 : pk_br ik ic if_ cn (nI 1) i := kb_1.mp c18
          refine lv_iinc (v := nI (b1 + 1)) (lv' := [(1, .int (nI (b1 + 1))), (0, .ref t), (2, .int (nI i))]) hx hb dd_It_countBreaks_21 hl (k := 1) rfl (nI_add b1 1) (by decide) rfl (fun ls hl => ?_)
          refine lv_iinc (v := nI (i + 1)) (lv' := [(2, .int (nI (i + 1))), (1, .int (nI (b1 + 1))), (0, .ref t)]) hx hb dd_It_countBreaks_24 hl (k := 2) rfl (nI_add i 1) (by decide) rfl (fun ls hl => ?_)
          refine lv_goto (tgt := 4) hx hb dd_It_countBreaks_27 (by decide) ?_
          exact ih_4 (b1 + 1) (i + 1) (by omega) (by omega) (by first | (rw [pq_c_s c18, hb1]; omega) | (rw [pq_c_n c18]; exact hb1)) H locs hP hD hS ls (lv_sub hl [2, 1, 0] rfl)
  exact lp4 ((cn - 0) + 1) 1 0 (Nat.lt_succ_self _) (by omega) rfl H locs hP hD hS ls (lv_sub hl [2, 1, 0] rfl)

theorem dd_It_setCost_0 : decode bb_It_setCost 0 = .ok (.iload_n 1, 1) := by decide +kernel
theorem dd_It_setCost_1 : decode bb_It_setCost 1 = .ok (.ifCond .lt (18), 3) := by decide +kernel
theorem dd_It_setCost_4 : decode bb_It_setCost 4 = .ok (.iload_n 1, 1) := by decide +kernel
theorem dd_It_setCost_5 : decode bb_It_setCost 5 = .ok (.aload_n 0, 1) := by decide +kernel
theorem dd_It_setCost_6 : decode bb_It_setCost 6 = .ok (.getfield 40, 3) := by decide +kernel
theorem dd_It_setCost_9 : decode bb_It_setCost 9 = .ok (.if_icmp .ge (10), 3) := by decide +kernel
theorem dd_It_setCost_12 : decode bb_It_setCost 12 = .ok (.aload_n 0, 1) := by decide +kernel
theorem dd_It_setCost_13 : decode bb_It_setCost 13 = .ok (.getfield 15, 3) := by decide +kernel
theorem dd_It_setCost_16 : decode bb_It_setCost 16 = .ok (.iload_n 1, 1) := by decide +kernel
theorem dd_It_setCost_17 : decode bb_It_setCost 17 = .ok (.iload_n 2, 1) := by decide +kernel
theorem dd_It_setCost_18 : decode bb_It_setCost 18 = .ok (.iastore, 1) := by decide +kernel
theorem dd_It_setCost_19 : decode bb_It_setCost 19 = .ok (.return_, 1) := by decide +kernel

set_option maxHeartbeats 4000000 in
set_option maxRecDepth 100000 in
theorem ct_It_setCost (l : Launch) (D : va_G) (cI cJ cZ : ClassId) (sz : Nat) (t : Nat) (cn : Nat) (i1 : Nat) (i2 : Nat) (i3 : Nat) (i4 : Nat) (i5 : Nat) (i6 : Nat) (i7 : Nat) (i8 : Nat) (i9 : Nat) (ln : Nat) (ic : Nat → Int32) (i : Nat) (v : Int32) (hi : i < cn) (hc : cn ≤ ln) (hln : ln < 2 ^ 30) : kx_Mv l yy_It_setCost ww_It_setCost ({ frames := 0, cells := 0, slots := 0, locals := 0 }) D vwCl (kx_ty cI cJ cZ) [.ref t, .int (nI i), .int v] [(t, .inr (4, [.int (nI cn), .ref i1, .ref i2, .ref i3, .ref i4, .ref i5, .ref i6, .ref i7, .ref i8, .ref i9])), (i2, .inl (cI, ln, .inl ic))] sz (fun (u : Unit) => True) (fun (u : Unit) => [(t, .inr (4, [.int (nI cn), .ref i1, .ref i2, .ref i3, .ref i4, .ref i5, .ref i6, .ref i7, .ref i8, .ref i9])), (i2, .inl (cI, ln, .inl (upd ic i v)))]) 0 0 := by
  refine kx_startv (by decide) rfl (Nat.le_of_ble_eq_true rfl) ?_
  intro p e s m below meth c A ls hx hb hr hml hts hown hlocks hin hP hK hN hD hA hS hl
  have hl : lv_has ls 3 [(0, .ref t), (1, .int (nI i)), (2, .int v)] := hl
  have hown : s.vm.findClass rr_It = some m.cls := hown
  have lk0 := hts _ (kx_m kw_131)
  have hin4 : ∀ w ∈ u_ws rr_It tt_It 10, w ∈ ww_It_setCost := fun w h => kx_m (kf_It w h)
  have lk2 := hts _ (kx_m kw_135)
  obtain ⟨H, hH⟩ : ∃ H, H = s.heap := ⟨_, rfl⟩
  obtain ⟨locs, hlocs⟩ : ∃ z : List Loc, z = [] := ⟨_, rfl⟩
  have hP : va_P D vwCl [(t, .inr (4, [.int (nI cn), .ref i1, .ref i2, .ref i3, .ref i4, .ref i5, .ref i6, .ref i7, .ref i8, .ref i9])), (i2, .inl (cI, ln, .inl ic))] H := by rw [hH]; exact hP
  have hS : va_S A s.heap H locs := by rw [hH, hlocs]; exact hS
  refine kx_gen hH hlocs ?_
  clear hH hlocs
  refine kx_nameQ (fun Q hQ => ?_)
  refine lv_iload_n hx hb dd_It_setCost_0 rfl (lv_at hl 1 rfl) ?_
  refine lv_if_lt (tgt := 19) hx hb dd_It_setCost_1 (by decide) (fun c1 => ?_) (fun c1 => ?_)
  · skip
    have c1 : i < 0 := (kn_lt0 (by omega)).mp c1
    exact absurd c1 (by omega)
  · skip
    have c1 : ¬ (i < 0) := fun h => c1 ((kn_lt0 (by omega)).mpr h)
    refine lv_iload_n hx hb dd_It_setCost_4 rfl (lv_at hl 1 rfl) ?_
    refine lv_aload_n hx hb dd_It_setCost_5 rfl (lv_at hl 0 rfl) ?_
    refine va_get (D := D) (ci := 4) (v := .int (nI cn)) (C := rr_It) (T := tt_It) (N := 10) hx hb hts hin4 hown hK hP 0 kg_2_0 rfl 0 (by decide) lk0 (fun _ h9 => h9) rfl dd_It_setCost_6 ?_
    refine lv_icmp_ge (tgt := 19) hx hb dd_It_setCost_9 (by decide) (fun c9 => ?_) (fun c9 => ?_)
    · skip
      have c9 : cn ≤ i := (nI_leI (by omega) (by omega)).mp c9
      exact absurd c9 (by omega)
    · skip
      have c9 : ¬ (cn ≤ i) := fun h => c9 ((nI_leI (by omega) (by omega)).mpr h)
      refine lv_aload_n hx hb dd_It_setCost_12 rfl (lv_at hl 0 rfl) ?_
      refine va_get (D := D) (ci := 4) (v := .ref i2) (C := rr_It) (T := tt_It) (N := 10) hx hb hts hin4 hown hK hP 0 kg_2_0 rfl 2 (by decide) lk2 (fun _ h9 => h9) rfl dd_It_setCost_13 ?_
      refine lv_iload_n hx hb dd_It_setCost_16 rfl (lv_at hl 1 rfl) ?_
      refine lv_iload_n hx hb dd_It_setCost_17 rfl (lv_at hl 2 rfl) ?_
      refine kx_iast (q0 := 1) (t0 := 0) hx hb dd_It_setCost_18 hK hP hD hS kg_2_1 rfl (by omega) (by omega) (fun H locs hP hD hS => ?_)
      have hP : va_P D vwCl [(t, .inr (4, [.int (nI cn), .ref i1, .ref i2, .ref i3, .ref i4, .ref i5, .ref i6, .ref i7, .ref i8, .ref i9])), (i2, .inl (cI, ln, .inl (upd ic i v)))] H := kx_cP kz_2_1 hP
      have hD : va_D A [(t, .inr (4, [.int (nI cn), .ref i1, .ref i2, .ref i3, .ref i4, .ref i5, .ref i6, .ref i7, .ref i8, .ref i9])), (i2, .inl (cI, ln, .inl (upd ic i v)))] := kx_cD kz_2_1 hD
      rw [hQ]
      exact kx_vret hx hb hr hlocks hK hN hS dd_It_setCost_19 () hP hD trivial

theorem dd_It_setCut_0 : decode bb_It_setCut 0 = .ok (.iload_n 1, 1) := by decide +kernel
theorem dd_It_setCut_1 : decode bb_It_setCut 1 = .ok (.ifCond .lt (11), 3) := by decide +kernel
theorem dd_It_setCut_4 : decode bb_It_setCut 4 = .ok (.iload_n 1, 1) := by decide +kernel
theorem dd_It_setCut_5 : decode bb_It_setCut 5 = .ok (.aload_n 0, 1) := by decide +kernel
theorem dd_It_setCut_6 : decode bb_It_setCut 6 = .ok (.getfield 40, 3) := by decide +kernel
theorem dd_It_setCut_9 : decode bb_It_setCut 9 = .ok (.if_icmp .lt (4), 3) := by decide +kernel
theorem dd_It_setCut_12 : decode bb_It_setCut 12 = .ok (.return_, 1) := by decide +kernel
theorem dd_It_setCut_13 : decode bb_It_setCut 13 = .ok (.aload_n 0, 1) := by decide +kernel
theorem dd_It_setCut_14 : decode bb_It_setCut 14 = .ok (.getfield 18, 3) := by decide +kernel
theorem dd_It_setCut_17 : decode bb_It_setCut 17 = .ok (.iload_n 1, 1) := by decide +kernel
theorem dd_It_setCut_18 : decode bb_It_setCut 18 = .ok (.iload_n 2, 1) := by decide +kernel
theorem dd_It_setCut_19 : decode bb_It_setCut 19 = .ok (.iastore, 1) := by decide +kernel
theorem dd_It_setCut_20 : decode bb_It_setCut 20 = .ok (.aload_n 0, 1) := by decide +kernel
theorem dd_It_setCut_21 : decode bb_It_setCut 21 = .ok (.getfield 21, 3) := by decide +kernel
theorem dd_It_setCut_24 : decode bb_It_setCut 24 = .ok (.iload_n 1, 1) := by decide +kernel
theorem dd_It_setCut_25 : decode bb_It_setCut 25 = .ok (.iload_n 3, 1) := by decide +kernel
theorem dd_It_setCut_26 : decode bb_It_setCut 26 = .ok (.iastore, 1) := by decide +kernel
theorem dd_It_setCut_27 : decode bb_It_setCut 27 = .ok (.aload_n 0, 1) := by decide +kernel
theorem dd_It_setCut_28 : decode bb_It_setCut 28 = .ok (.getfield 24, 3) := by decide +kernel
theorem dd_It_setCut_31 : decode bb_It_setCut 31 = .ok (.iload_n 1, 1) := by decide +kernel
theorem dd_It_setCut_32 : decode bb_It_setCut 32 = .ok (.iload 4, 2) := by decide +kernel
theorem dd_It_setCut_34 : decode bb_It_setCut 34 = .ok (.iastore, 1) := by decide +kernel
theorem dd_It_setCut_35 : decode bb_It_setCut 35 = .ok (.return_, 1) := by decide +kernel

set_option maxHeartbeats 4000000 in
set_option maxRecDepth 100000 in
theorem ct_It_setCut (l : Launch) (D : va_G) (cI cJ cZ : ClassId) (sz : Nat) (t : Nat) (cn : Nat) (i1 : Nat) (i2 : Nat) (i3 : Nat) (i4 : Nat) (i5 : Nat) (i6 : Nat) (i7 : Nat) (i8 : Nat) (i9 : Nat) (ln : Nat) (ia : Nat → Int32) (ib : Nat → Int32) (if_ : Nat → Int32) (i : Nat) (v1 : Int32) (v2 : Int32) (v3 : Int32) (hi : i < cn) (hc : cn ≤ ln) (hln : ln < 2 ^ 30) : kx_Mv l yy_It_setCut ww_It_setCut ({ frames := 0, cells := 0, slots := 0, locals := 0 }) D vwCl (kx_ty cI cJ cZ) [.ref t, .int (nI i), .int v1, .int v2, .int v3] [(t, .inr (4, [.int (nI cn), .ref i1, .ref i2, .ref i3, .ref i4, .ref i5, .ref i6, .ref i7, .ref i8, .ref i9])), (i3, .inl (cI, ln, .inl ia)), (i4, .inl (cI, ln, .inl ib)), (i5, .inl (cI, ln, .inl if_))] sz (fun (u : Unit) => True) (fun (u : Unit) => [(t, .inr (4, [.int (nI cn), .ref i1, .ref i2, .ref i3, .ref i4, .ref i5, .ref i6, .ref i7, .ref i8, .ref i9])), (i3, .inl (cI, ln, .inl (upd ia i v1))), (i4, .inl (cI, ln, .inl (upd ib i v2))), (i5, .inl (cI, ln, .inl (upd if_ i v3)))]) 0 0 := by
  refine kx_startv (by decide) rfl (Nat.le_of_ble_eq_true rfl) ?_
  intro p e s m below meth c A ls hx hb hr hml hts hown hlocks hin hP hK hN hD hA hS hl
  have hl : lv_has ls 5 [(0, .ref t), (1, .int (nI i)), (2, .int v1), (3, .int v2), (4, .int v3)] := hl
  have hown : s.vm.findClass rr_It = some m.cls := hown
  have lk0 := hts _ (kx_m kw_131)
  have hin4 : ∀ w ∈ u_ws rr_It tt_It 10, w ∈ ww_It_setCut := fun w h => kx_m (kf_It w h)
  have lk2 := hts _ (kx_m kw_137)
  have lk3 := hts _ (kx_m kw_139)
  have lk4 := hts _ (kx_m kw_141)
  obtain ⟨H, hH⟩ : ∃ H, H = s.heap := ⟨_, rfl⟩
  obtain ⟨locs, hlocs⟩ : ∃ z : List Loc, z = [] := ⟨_, rfl⟩
  have hP : va_P D vwCl [(t, .inr (4, [.int (nI cn), .ref i1, .ref i2, .ref i3, .ref i4, .ref i5, .ref i6, .ref i7, .ref i8, .ref i9])), (i3, .inl (cI, ln, .inl ia)), (i4, .inl (cI, ln, .inl ib)), (i5, .inl (cI, ln, .inl if_))] H := by rw [hH]; exact hP
  have hS : va_S A s.heap H locs := by rw [hH, hlocs]; exact hS
  refine kx_gen hH hlocs ?_
  clear hH hlocs
  refine kx_nameQ (fun Q hQ => ?_)
  refine lv_iload_n hx hb dd_It_setCut_0 rfl (lv_at hl 1 rfl) ?_
  refine lv_if_lt (tgt := 12) hx hb dd_It_setCut_1 (by decide) (fun c1 => ?_) (fun c1 => ?_)
  · skip
    have c1 : i < 0 := (kn_lt0 (by omega)).mp c1
    exact absurd c1 (by omega)
  · skip
    have c1 : ¬ (i < 0) := fun h => c1 ((kn_lt0 (by omega)).mpr h)
    refine lv_iload_n hx hb dd_It_setCut_4 rfl (lv_at hl 1 rfl) ?_
    refine lv_aload_n hx hb dd_It_setCut_5 rfl (lv_at hl 0 rfl) ?_
    refine va_get (D := D) (ci := 4) (v := .int (nI cn)) (C := rr_It) (T := tt_It) (N := 10) hx hb hts hin4 hown hK hP 0 kg_4_0 rfl 0 (by decide) lk0 (fun _ h9 => h9) rfl dd_It_setCut_6 ?_
    refine lv_icmp_lt (tgt := 13) hx hb dd_It_setCut_9 (by decide) (fun c9 => ?_) (fun c9 => ?_)
    · skip
      have c9 : i < cn := (nI_ltI (by omega) (by omega)).mp c9
      refine lv_aload_n hx hb dd_It_setCut_13 rfl (lv_at hl 0 rfl) ?_
      refine va_get (D := D) (ci := 4) (v := .ref i3) (C := rr_It) (T := tt_It) (N := 10) hx hb hts hin4 hown hK hP 0 kg_4_0 rfl 3 (by decide) lk2 (fun _ h9 => h9) rfl dd_It_setCut_14 ?_
      refine lv_iload_n hx hb dd_It_setCut_17 rfl (lv_at hl 1 rfl) ?_
      refine lv_iload_n hx hb dd_It_setCut_18 rfl (lv_at hl 2 rfl) ?_
      refine kx_iast (q0 := 1) (t0 := 0) hx hb dd_It_setCut_19 hK hP hD hS kg_4_1 rfl (by omega) (by omega) (fun H locs hP hD hS => ?_)
      have hP : va_P D vwCl [(t, .inr (4, [.int (nI cn), .ref i1, .ref i2, .ref i3, .ref i4, .ref i5, .ref i6, .ref i7, .ref i8, .ref i9])), (i3, .inl (cI, ln, .inl (upd ia i v1))), (i4, .inl (cI, ln, .inl ib)), (i5, .inl (cI, ln, .inl if_))] H := kx_cP kz_4_1 hP
      have hD : va_D A [(t, .inr (4, [.int (nI cn), .ref i1, .ref i2, .ref i3, .ref i4, .ref i5, .ref i6, .ref i7, .ref i8, .ref i9])), (i3, .inl (cI, ln, .inl (upd ia i v1))), (i4, .inl (cI, ln, .inl ib)), (i5, .inl (cI, ln, .inl if_))] := kx_cD kz_4_1 hD
      refine lv_aload_n hx hb dd_It_setCut_20 rfl (lv_at hl 0 rfl) ?_
      refine va_get (D := D) (ci := 4) (v := .ref i4) (C := rr_It) (T := tt_It) (N := 10) hx hb hts hin4 hown hK hP 0 kg_4_0 rfl 4 (by decide) lk3 (fun _ h9 => h9) rfl dd_It_setCut_21 ?_
      refine lv_iload_n hx hb dd_It_setCut_24 rfl (lv_at hl 1 rfl) ?_
      refine lv_iload_n hx hb dd_It_setCut_25 rfl (lv_at hl 3 rfl) ?_
      refine kx_iast (q0 := 2) (t0 := 0) hx hb dd_It_setCut_26 hK hP hD hS kg_4_2 rfl (by omega) (by omega) (fun H locs hP hD hS => ?_)
      have hP : va_P D vwCl [(t, .inr (4, [.int (nI cn), .ref i1, .ref i2, .ref i3, .ref i4, .ref i5, .ref i6, .ref i7, .ref i8, .ref i9])), (i3, .inl (cI, ln, .inl (upd ia i v1))), (i4, .inl (cI, ln, .inl (upd ib i v2))), (i5, .inl (cI, ln, .inl if_))] H := kx_cP kz_4_2 hP
      have hD : va_D A [(t, .inr (4, [.int (nI cn), .ref i1, .ref i2, .ref i3, .ref i4, .ref i5, .ref i6, .ref i7, .ref i8, .ref i9])), (i3, .inl (cI, ln, .inl (upd ia i v1))), (i4, .inl (cI, ln, .inl (upd ib i v2))), (i5, .inl (cI, ln, .inl if_))] := kx_cD kz_4_2 hD
      refine lv_aload_n hx hb dd_It_setCut_27 rfl (lv_at hl 0 rfl) ?_
      refine va_get (D := D) (ci := 4) (v := .ref i5) (C := rr_It) (T := tt_It) (N := 10) hx hb hts hin4 hown hK hP 0 kg_4_0 rfl 5 (by decide) lk4 (fun _ h9 => h9) rfl dd_It_setCut_28 ?_
      refine lv_iload_n hx hb dd_It_setCut_31 rfl (lv_at hl 1 rfl) ?_
      refine lv_iload hx hb dd_It_setCut_32 (lv_at hl 4 rfl) ?_
      refine kx_iast (q0 := 3) (t0 := 0) hx hb dd_It_setCut_34 hK hP hD hS kg_4_3 rfl (by omega) (by omega) (fun H locs hP hD hS => ?_)
      have hP : va_P D vwCl [(t, .inr (4, [.int (nI cn), .ref i1, .ref i2, .ref i3, .ref i4, .ref i5, .ref i6, .ref i7, .ref i8, .ref i9])), (i3, .inl (cI, ln, .inl (upd ia i v1))), (i4, .inl (cI, ln, .inl (upd ib i v2))), (i5, .inl (cI, ln, .inl (upd if_ i v3)))] H := kx_cP kz_4_3 hP
      have hD : va_D A [(t, .inr (4, [.int (nI cn), .ref i1, .ref i2, .ref i3, .ref i4, .ref i5, .ref i6, .ref i7, .ref i8, .ref i9])), (i3, .inl (cI, ln, .inl (upd ia i v1))), (i4, .inl (cI, ln, .inl (upd ib i v2))), (i5, .inl (cI, ln, .inl (upd if_ i v3)))] := kx_cD kz_4_3 hD
      rw [hQ]
      exact kx_vret hx hb hr hlocks hK hN hS dd_It_setCut_35 () hP hD trivial
    · skip
      have c9 : ¬ (i < cn) := fun h => c9 ((nI_ltI (by omega) (by omega)).mpr h)
      exact absurd (by omega) c9

theorem dd_It_addSpring_0 : decode bb_It_addSpring 0 = .ok (.iload_n 1, 1) := by decide +kernel
theorem dd_It_addSpring_1 : decode bb_It_addSpring 1 = .ok (.ifCond .lt (11), 3) := by decide +kernel
theorem dd_It_addSpring_4 : decode bb_It_addSpring 4 = .ok (.iload_n 1, 1) := by decide +kernel
theorem dd_It_addSpring_5 : decode bb_It_addSpring 5 = .ok (.aload_n 0, 1) := by decide +kernel
theorem dd_It_addSpring_6 : decode bb_It_addSpring 6 = .ok (.getfield 40, 3) := by decide +kernel
theorem dd_It_addSpring_9 : decode bb_It_addSpring 9 = .ok (.if_icmp .lt (4), 3) := by decide +kernel
theorem dd_It_addSpring_12 : decode bb_It_addSpring 12 = .ok (.return_, 1) := by decide +kernel
theorem dd_It_addSpring_13 : decode bb_It_addSpring 13 = .ok (.iload_n 3, 1) := by decide +kernel
theorem dd_It_addSpring_14 : decode bb_It_addSpring 14 = .ok (.ifCond .ne (19), 3) := by decide +kernel
theorem dd_It_addSpring_17 : decode bb_It_addSpring 17 = .ok (.aload_n 0, 1) := by decide +kernel
theorem dd_It_addSpring_18 : decode bb_It_addSpring 18 = .ok (.getfield 31, 3) := by decide +kernel
theorem dd_It_addSpring_21 : decode bb_It_addSpring 21 = .ok (.iload_n 1, 1) := by decide +kernel
theorem dd_It_addSpring_22 : decode bb_It_addSpring 22 = .ok (.iconst 1, 1) := by decide +kernel
theorem dd_It_addSpring_23 : decode bb_It_addSpring 23 = .ok (.iadd, 1) := by decide +kernel
theorem dd_It_addSpring_24 : decode bb_It_addSpring 24 = .ok (.dup2, 1) := by decide +kernel
theorem dd_It_addSpring_25 : decode bb_It_addSpring 25 = .ok (.laload, 1) := by decide +kernel
theorem dd_It_addSpring_26 : decode bb_It_addSpring 26 = .ok (.iload_n 2, 1) := by decide +kernel
theorem dd_It_addSpring_27 : decode bb_It_addSpring 27 = .ok (.i2l, 1) := by decide +kernel
theorem dd_It_addSpring_28 : decode bb_It_addSpring 28 = .ok (.ladd, 1) := by decide +kernel
theorem dd_It_addSpring_29 : decode bb_It_addSpring 29 = .ok (.lastore, 1) := by decide +kernel
theorem dd_It_addSpring_30 : decode bb_It_addSpring 30 = .ok (.goto (16), 3) := by decide +kernel
theorem dd_It_addSpring_33 : decode bb_It_addSpring 33 = .ok (.aload_n 0, 1) := by decide +kernel
theorem dd_It_addSpring_34 : decode bb_It_addSpring 34 = .ok (.getfield 34, 3) := by decide +kernel
theorem dd_It_addSpring_37 : decode bb_It_addSpring 37 = .ok (.iload_n 1, 1) := by decide +kernel
theorem dd_It_addSpring_38 : decode bb_It_addSpring 38 = .ok (.iconst 1, 1) := by decide +kernel
theorem dd_It_addSpring_39 : decode bb_It_addSpring 39 = .ok (.iadd, 1) := by decide +kernel
theorem dd_It_addSpring_40 : decode bb_It_addSpring 40 = .ok (.dup2, 1) := by decide +kernel
theorem dd_It_addSpring_41 : decode bb_It_addSpring 41 = .ok (.laload, 1) := by decide +kernel
theorem dd_It_addSpring_42 : decode bb_It_addSpring 42 = .ok (.iload_n 2, 1) := by decide +kernel
theorem dd_It_addSpring_43 : decode bb_It_addSpring 43 = .ok (.i2l, 1) := by decide +kernel
theorem dd_It_addSpring_44 : decode bb_It_addSpring 44 = .ok (.ladd, 1) := by decide +kernel
theorem dd_It_addSpring_45 : decode bb_It_addSpring 45 = .ok (.lastore, 1) := by decide +kernel
theorem dd_It_addSpring_46 : decode bb_It_addSpring 46 = .ok (.aload_n 0, 1) := by decide +kernel
theorem dd_It_addSpring_47 : decode bb_It_addSpring 47 = .ok (.getfield 37, 3) := by decide +kernel
theorem dd_It_addSpring_50 : decode bb_It_addSpring 50 = .ok (.iload_n 1, 1) := by decide +kernel
theorem dd_It_addSpring_51 : decode bb_It_addSpring 51 = .ok (.iconst 1, 1) := by decide +kernel
theorem dd_It_addSpring_52 : decode bb_It_addSpring 52 = .ok (.iadd, 1) := by decide +kernel
theorem dd_It_addSpring_53 : decode bb_It_addSpring 53 = .ok (.dup2, 1) := by decide +kernel
theorem dd_It_addSpring_54 : decode bb_It_addSpring 54 = .ok (.laload, 1) := by decide +kernel
theorem dd_It_addSpring_55 : decode bb_It_addSpring 55 = .ok (.iload 4, 2) := by decide +kernel
theorem dd_It_addSpring_57 : decode bb_It_addSpring 57 = .ok (.i2l, 1) := by decide +kernel
theorem dd_It_addSpring_58 : decode bb_It_addSpring 58 = .ok (.ladd, 1) := by decide +kernel
theorem dd_It_addSpring_59 : decode bb_It_addSpring 59 = .ok (.lastore, 1) := by decide +kernel
theorem dd_It_addSpring_60 : decode bb_It_addSpring 60 = .ok (.return_, 1) := by decide +kernel

set_option maxHeartbeats 4000000 in
set_option maxRecDepth 100000 in
theorem ct_It_addSpring (l : Launch) (D : va_G) (cI cJ cZ : ClassId) (sz : Nat) (t : Nat) (cn : Nat) (i1 : Nat) (i2 : Nat) (i3 : Nat) (i4 : Nat) (i5 : Nat) (i6 : Nat) (i7 : Nat) (i8 : Nat) (i9 : Nat) (ln : Nat) (is_ : Nat → Int64) (ih : Nat → Int64) (ij : Nat → Int64) (i : Nat) (v1 : Int32) (v2 : Int32) (v3 : Int32) (hi : i < cn) (hc : cn ≤ ln) (hln : ln < 2 ^ 30) : kx_Mv l yy_It_addSpring ww_It_addSpring ({ frames := 0, cells := 0, slots := 0, locals := 0 }) D vwCl (kx_ty cI cJ cZ) [.ref t, .int (nI i), .int v1, .int v2, .int v3] [(t, .inr (4, [.int (nI cn), .ref i1, .ref i2, .ref i3, .ref i4, .ref i5, .ref i6, .ref i7, .ref i8, .ref i9])), (i7, .inl (cJ, (ln + 1), .inr (.inl is_))), (i8, .inl (cJ, (ln + 1), .inr (.inl ih))), (i9, .inl (cJ, (ln + 1), .inr (.inl ij)))] sz (fun (u : (Nat → Int64) × (Nat → Int64) × (Nat → Int64)) => u.1 = (if v2 = 0 then vp_updL is_ (i + 1) (is_ (i + 1) + v1.toInt64) else is_) ∧ u.2.1 = (if v2 = 0 then ih else vp_updL ih (i + 1) (ih (i + 1) + v1.toInt64)) ∧ u.2.2 = vp_updL ij (i + 1) (ij (i + 1) + v3.toInt64)) (fun (u : (Nat → Int64) × (Nat → Int64) × (Nat → Int64)) => [(t, .inr (4, [.int (nI cn), .ref i1, .ref i2, .ref i3, .ref i4, .ref i5, .ref i6, .ref i7, .ref i8, .ref i9])), (i7, .inl (cJ, (ln + 1), .inr (.inl u.1))), (i8, .inl (cJ, (ln + 1), .inr (.inl u.2.1))), (i9, .inl (cJ, (ln + 1), .inr (.inl u.2.2)))]) 0 0 := by
  refine kx_startv (by decide) rfl (Nat.le_of_ble_eq_true rfl) ?_
  intro p e s m below meth c A ls hx hb hr hml hts hown hlocks hin hP hK hN hD hA hS hl
  have hl : lv_has ls 5 [(0, .ref t), (1, .int (nI i)), (2, .int v1), (3, .int v2), (4, .int v3)] := hl
  have hown : s.vm.findClass rr_It = some m.cls := hown
  have lk0 := hts _ (kx_m kw_131)
  have hin4 : ∀ w ∈ u_ws rr_It tt_It 10, w ∈ ww_It_addSpring := fun w h => kx_m (kf_It w h)
  have lk2 := hts _ (kx_m kw_146)
  have lk3 := hts _ (kx_m kw_148)
  have lk4 := hts _ (kx_m kw_144)
  obtain ⟨H, hH⟩ : ∃ H, H = s.heap := ⟨_, rfl⟩
  obtain ⟨locs, hlocs⟩ : ∃ z : List Loc, z = [] := ⟨_, rfl⟩
  have hP : va_P D vwCl [(t, .inr (4, [.int (nI cn), .ref i1, .ref i2, .ref i3, .ref i4, .ref i5, .ref i6, .ref i7, .ref i8, .ref i9])), (i7, .inl (cJ, (ln + 1), .inr (.inl is_))), (i8, .inl (cJ, (ln + 1), .inr (.inl ih))), (i9, .inl (cJ, (ln + 1), .inr (.inl ij)))] H := by rw [hH]; exact hP
  have hS : va_S A s.heap H locs := by rw [hH, hlocs]; exact hS
  refine kx_gen hH hlocs ?_
  clear hH hlocs
  refine kx_nameQ (fun Q hQ => ?_)
  refine lv_iload_n hx hb dd_It_addSpring_0 rfl (lv_at hl 1 rfl) ?_
  refine lv_if_lt (tgt := 12) hx hb dd_It_addSpring_1 (by decide) (fun c1 => ?_) (fun c1 => ?_)
  · skip
    have c1 : i < 0 := (kn_lt0 (by omega)).mp c1
    exact absurd c1 (by omega)
  · skip
    have c1 : ¬ (i < 0) := fun h => c1 ((kn_lt0 (by omega)).mpr h)
    refine lv_iload_n hx hb dd_It_addSpring_4 rfl (lv_at hl 1 rfl) ?_
    refine lv_aload_n hx hb dd_It_addSpring_5 rfl (lv_at hl 0 rfl) ?_
    refine va_get (D := D) (ci := 4) (v := .int (nI cn)) (C := rr_It) (T := tt_It) (N := 10) hx hb hts hin4 hown hK hP 0 kg_4_0 rfl 0 (by decide) lk0 (fun _ h9 => h9) rfl dd_It_addSpring_6 ?_
    refine lv_icmp_lt (tgt := 13) hx hb dd_It_addSpring_9 (by decide) (fun c9 => ?_) (fun c9 => ?_)
    · skip
      have c9 : i < cn := (nI_ltI (by omega) (by omega)).mp c9
      refine lv_iload_n hx hb dd_It_addSpring_13 rfl (lv_at hl 3 rfl) ?_
      refine lv_if_ne (tgt := 33) hx hb dd_It_addSpring_14 (by decide) (fun c14 => ?_) (fun c14 => ?_)
      · skip
        refine lv_aload_n hx hb dd_It_addSpring_33 rfl (lv_at hl 0 rfl) ?_
        refine va_get (D := D) (ci := 4) (v := .ref i8) (C := rr_It) (T := tt_It) (N := 10) hx hb hts hin4 hown hK hP 0 kg_4_0 rfl 8 (by decide) lk2 (fun _ h9 => h9) rfl dd_It_addSpring_34 ?_
        refine lv_iload_n hx hb dd_It_addSpring_37 rfl (lv_at hl 1 rfl) ?_
        refine lv_iconst (v := nI 1) hx hb dd_It_addSpring_38 (by decide) ?_
        refine kx_iadd hx hb dd_It_addSpring_39 ?_
        refine lv_dup2_11 hx hb dd_It_addSpring_40 rfl rfl ?_
        refine kx_lald (q0 := 2) (t0 := 1) hx hb dd_It_addSpring_41 hK hP kg_4_2 rfl (by omega) (by omega) ?_
        refine lv_iload_n hx hb dd_It_addSpring_42 rfl (lv_at hl 2 rfl) ?_
        refine lv_i2l hx hb dd_It_addSpring_43 rfl ?_
        refine lv_ladd hx hb dd_It_addSpring_44 ?_
        refine kx_last (q0 := 2) (t0 := 1) hx hb dd_It_addSpring_45 hK hP hD hS kg_4_2 rfl (by omega) (by omega) (fun H locs hP hD hS => ?_)
        have hP : va_P D vwCl [(t, .inr (4, [.int (nI cn), .ref i1, .ref i2, .ref i3, .ref i4, .ref i5, .ref i6, .ref i7, .ref i8, .ref i9])), (i7, .inl (cJ, (ln + 1), .inr (.inl is_))), (i8, .inl (cJ, (ln + 1), .inr (.inl (vp_updL ih (i + 1) ((ih (i + 1)) + v1.toInt64))))), (i9, .inl (cJ, (ln + 1), .inr (.inl ij)))] H := kx_cP kz_4_2 hP
        have hD : va_D A [(t, .inr (4, [.int (nI cn), .ref i1, .ref i2, .ref i3, .ref i4, .ref i5, .ref i6, .ref i7, .ref i8, .ref i9])), (i7, .inl (cJ, (ln + 1), .inr (.inl is_))), (i8, .inl (cJ, (ln + 1), .inr (.inl (vp_updL ih (i + 1) ((ih (i + 1)) + v1.toInt64))))), (i9, .inl (cJ, (ln + 1), .inr (.inl ij)))] := kx_cD kz_4_2 hD
        refine lv_aload_n hx hb dd_It_addSpring_46 rfl (lv_at hl 0 rfl) ?_
        refine va_get (D := D) (ci := 4) (v := .ref i9) (C := rr_It) (T := tt_It) (N := 10) hx hb hts hin4 hown hK hP 0 kg_4_0 rfl 9 (by decide) lk3 (fun _ h9 => h9) rfl dd_It_addSpring_47 ?_
        refine lv_iload_n hx hb dd_It_addSpring_50 rfl (lv_at hl 1 rfl) ?_
        refine lv_iconst (v := nI 1) hx hb dd_It_addSpring_51 (by decide) ?_
        refine kx_iadd hx hb dd_It_addSpring_52 ?_
        refine lv_dup2_11 hx hb dd_It_addSpring_53 rfl rfl ?_
        refine kx_lald (q0 := 3) (t0 := 1) hx hb dd_It_addSpring_54 hK hP kg_4_3 rfl (by omega) (by omega) ?_
        refine lv_iload hx hb dd_It_addSpring_55 (lv_at hl 4 rfl) ?_
        refine lv_i2l hx hb dd_It_addSpring_57 rfl ?_
        refine lv_ladd hx hb dd_It_addSpring_58 ?_
        refine kx_last (q0 := 3) (t0 := 1) hx hb dd_It_addSpring_59 hK hP hD hS kg_4_3 rfl (by omega) (by omega) (fun H locs hP hD hS => ?_)
        have hP : va_P D vwCl [(t, .inr (4, [.int (nI cn), .ref i1, .ref i2, .ref i3, .ref i4, .ref i5, .ref i6, .ref i7, .ref i8, .ref i9])), (i7, .inl (cJ, (ln + 1), .inr (.inl is_))), (i8, .inl (cJ, (ln + 1), .inr (.inl (vp_updL ih (i + 1) ((ih (i + 1)) + v1.toInt64))))), (i9, .inl (cJ, (ln + 1), .inr (.inl (vp_updL ij (i + 1) ((ij (i + 1)) + v3.toInt64)))))] H := kx_cP kz_4_3 hP
        have hD : va_D A [(t, .inr (4, [.int (nI cn), .ref i1, .ref i2, .ref i3, .ref i4, .ref i5, .ref i6, .ref i7, .ref i8, .ref i9])), (i7, .inl (cJ, (ln + 1), .inr (.inl is_))), (i8, .inl (cJ, (ln + 1), .inr (.inl (vp_updL ih (i + 1) ((ih (i + 1)) + v1.toInt64))))), (i9, .inl (cJ, (ln + 1), .inr (.inl (vp_updL ij (i + 1) ((ij (i + 1)) + v3.toInt64)))))] := kx_cD kz_4_3 hD
        rw [hQ]
        exact kx_vret hx hb hr hlocks hK hN hS dd_It_addSpring_60 (is_, vp_updL ih (i + 1) ((ih (i + 1)) + v1.toInt64), vp_updL ij (i + 1) ((ij (i + 1)) + v3.toInt64)) hP hD (by first | (rw [if_pos c14, if_pos c14]; exact ⟨rfl, rfl, rfl⟩) | (rw [if_neg c14, if_neg c14]; exact ⟨rfl, rfl, rfl⟩))
      · skip
        refine lv_aload_n hx hb dd_It_addSpring_17 rfl (lv_at hl 0 rfl) ?_
        refine va_get (D := D) (ci := 4) (v := .ref i7) (C := rr_It) (T := tt_It) (N := 10) hx hb hts hin4 hown hK hP 0 kg_4_0 rfl 7 (by decide) lk4 (fun _ h9 => h9) rfl dd_It_addSpring_18 ?_
        refine lv_iload_n hx hb dd_It_addSpring_21 rfl (lv_at hl 1 rfl) ?_
        refine lv_iconst (v := nI 1) hx hb dd_It_addSpring_22 (by decide) ?_
        refine kx_iadd hx hb dd_It_addSpring_23 ?_
        refine lv_dup2_11 hx hb dd_It_addSpring_24 rfl rfl ?_
        refine kx_lald (q0 := 1) (t0 := 1) hx hb dd_It_addSpring_25 hK hP kg_4_1 rfl (by omega) (by omega) ?_
        refine lv_iload_n hx hb dd_It_addSpring_26 rfl (lv_at hl 2 rfl) ?_
        refine lv_i2l hx hb dd_It_addSpring_27 rfl ?_
        refine lv_ladd hx hb dd_It_addSpring_28 ?_
        refine kx_last (q0 := 1) (t0 := 1) hx hb dd_It_addSpring_29 hK hP hD hS kg_4_1 rfl (by omega) (by omega) (fun H locs hP hD hS => ?_)
        have hP : va_P D vwCl [(t, .inr (4, [.int (nI cn), .ref i1, .ref i2, .ref i3, .ref i4, .ref i5, .ref i6, .ref i7, .ref i8, .ref i9])), (i7, .inl (cJ, (ln + 1), .inr (.inl (vp_updL is_ (i + 1) ((is_ (i + 1)) + v1.toInt64))))), (i8, .inl (cJ, (ln + 1), .inr (.inl ih))), (i9, .inl (cJ, (ln + 1), .inr (.inl ij)))] H := kx_cP kz_4_1 hP
        have hD : va_D A [(t, .inr (4, [.int (nI cn), .ref i1, .ref i2, .ref i3, .ref i4, .ref i5, .ref i6, .ref i7, .ref i8, .ref i9])), (i7, .inl (cJ, (ln + 1), .inr (.inl (vp_updL is_ (i + 1) ((is_ (i + 1)) + v1.toInt64))))), (i8, .inl (cJ, (ln + 1), .inr (.inl ih))), (i9, .inl (cJ, (ln + 1), .inr (.inl ij)))] := kx_cD kz_4_1 hD
        refine lv_goto (tgt := 46) hx hb dd_It_addSpring_30 (by decide) ?_
        refine lv_aload_n hx hb dd_It_addSpring_46 rfl (lv_at hl 0 rfl) ?_
        refine va_get (D := D) (ci := 4) (v := .ref i9) (C := rr_It) (T := tt_It) (N := 10) hx hb hts hin4 hown hK hP 0 kg_4_0 rfl 9 (by decide) lk3 (fun _ h9 => h9) rfl dd_It_addSpring_47 ?_
        refine lv_iload_n hx hb dd_It_addSpring_50 rfl (lv_at hl 1 rfl) ?_
        refine lv_iconst (v := nI 1) hx hb dd_It_addSpring_51 (by decide) ?_
        refine kx_iadd hx hb dd_It_addSpring_52 ?_
        refine lv_dup2_11 hx hb dd_It_addSpring_53 rfl rfl ?_
        refine kx_lald (q0 := 3) (t0 := 1) hx hb dd_It_addSpring_54 hK hP kg_4_3 rfl (by omega) (by omega) ?_
        refine lv_iload hx hb dd_It_addSpring_55 (lv_at hl 4 rfl) ?_
        refine lv_i2l hx hb dd_It_addSpring_57 rfl ?_
        refine lv_ladd hx hb dd_It_addSpring_58 ?_
        refine kx_last (q0 := 3) (t0 := 1) hx hb dd_It_addSpring_59 hK hP hD hS kg_4_3 rfl (by omega) (by omega) (fun H locs hP hD hS => ?_)
        have hP : va_P D vwCl [(t, .inr (4, [.int (nI cn), .ref i1, .ref i2, .ref i3, .ref i4, .ref i5, .ref i6, .ref i7, .ref i8, .ref i9])), (i7, .inl (cJ, (ln + 1), .inr (.inl (vp_updL is_ (i + 1) ((is_ (i + 1)) + v1.toInt64))))), (i8, .inl (cJ, (ln + 1), .inr (.inl ih))), (i9, .inl (cJ, (ln + 1), .inr (.inl (vp_updL ij (i + 1) ((ij (i + 1)) + v3.toInt64)))))] H := kx_cP kz_4_3 hP
        have hD : va_D A [(t, .inr (4, [.int (nI cn), .ref i1, .ref i2, .ref i3, .ref i4, .ref i5, .ref i6, .ref i7, .ref i8, .ref i9])), (i7, .inl (cJ, (ln + 1), .inr (.inl (vp_updL is_ (i + 1) ((is_ (i + 1)) + v1.toInt64))))), (i8, .inl (cJ, (ln + 1), .inr (.inl ih))), (i9, .inl (cJ, (ln + 1), .inr (.inl (vp_updL ij (i + 1) ((ij (i + 1)) + v3.toInt64)))))] := kx_cD kz_4_3 hD
        rw [hQ]
        exact kx_vret hx hb hr hlocks hK hN hS dd_It_addSpring_60 (vp_updL is_ (i + 1) ((is_ (i + 1)) + v1.toInt64), ih, vp_updL ij (i + 1) ((ij (i + 1)) + v3.toInt64)) hP hD (by first | (rw [if_pos c14, if_pos c14]; exact ⟨rfl, rfl, rfl⟩) | (rw [if_neg c14, if_neg c14]; exact ⟨rfl, rfl, rfl⟩))
    · skip
      have c9 : ¬ (i < cn) := fun h => c9 ((nI_ltI (by omega) (by omega)).mpr h)
      exact absurd (by omega) c9


set_option maxHeartbeats 4000000 in
set_option maxRecDepth 100000 in
theorem ct_It_setCost_n (l : Launch) (D : va_G) (cI cJ cZ : ClassId) (sz : Nat) (t : Nat) (cn : Nat) (i1 : Nat) (i2 : Nat) (i3 : Nat) (i4 : Nat) (i5 : Nat) (i6 : Nat) (i7 : Nat) (i8 : Nat) (i9 : Nat) (ln : Nat) (ic : Nat → Int32) (v : Int32) (hc : cn ≤ ln) (hln : ln < 2 ^ 30) : kx_Mv l yy_It_setCost ww_It_setCost ({ frames := 0, cells := 0, slots := 0, locals := 0 }) D vwCl (kx_ty cI cJ cZ) [.ref t, .int (-1), .int v] [(t, .inr (4, [.int (nI cn), .ref i1, .ref i2, .ref i3, .ref i4, .ref i5, .ref i6, .ref i7, .ref i8, .ref i9])), (i2, .inl (cI, ln, .inl ic))] sz (fun (u : Unit) => True) (fun (u : Unit) => [(t, .inr (4, [.int (nI cn), .ref i1, .ref i2, .ref i3, .ref i4, .ref i5, .ref i6, .ref i7, .ref i8, .ref i9])), (i2, .inl (cI, ln, .inl ic))]) 0 0 := by
  refine kx_startv (by decide) rfl (Nat.le_of_ble_eq_true rfl) ?_
  intro p e s m below meth c A ls hx hb hr hml hts hown hlocks hin hP hK hN hD hA hS hl
  have hl : lv_has ls 3 [(0, .ref t), (1, .int (-1)), (2, .int v)] := hl
  have hown : s.vm.findClass rr_It = some m.cls := hown
  obtain ⟨H, hH⟩ : ∃ H, H = s.heap := ⟨_, rfl⟩
  obtain ⟨locs, hlocs⟩ : ∃ z : List Loc, z = [] := ⟨_, rfl⟩
  have hP : va_P D vwCl [(t, .inr (4, [.int (nI cn), .ref i1, .ref i2, .ref i3, .ref i4, .ref i5, .ref i6, .ref i7, .ref i8, .ref i9])), (i2, .inl (cI, ln, .inl ic))] H := by rw [hH]; exact hP
  have hS : va_S A s.heap H locs := by rw [hH, hlocs]; exact hS
  refine kx_gen hH hlocs ?_
  clear hH hlocs
  refine kx_nameQ (fun Q hQ => ?_)
  refine lv_iload_n hx hb dd_It_setCost_0 rfl (lv_at hl 1 rfl) ?_
  refine lv_if_lt (tgt := 19) hx hb dd_It_setCost_1 (by decide) (fun _ => ?_) (fun h => absurd (by decide +kernel) h)
  rw [hQ]
  exact kx_vret hx hb hr hlocks hK hN hS dd_It_setCost_19 () hP hD trivial


set_option maxHeartbeats 4000000 in
set_option maxRecDepth 100000 in
theorem ct_It_setCut_n (l : Launch) (D : va_G) (cI cJ cZ : ClassId) (sz : Nat) (t : Nat) (cn : Nat) (i1 : Nat) (i2 : Nat) (i3 : Nat) (i4 : Nat) (i5 : Nat) (i6 : Nat) (i7 : Nat) (i8 : Nat) (i9 : Nat) (ln : Nat) (ia : Nat → Int32) (ib : Nat → Int32) (if_ : Nat → Int32) (v1 : Int32) (v2 : Int32) (v3 : Int32) (hc : cn ≤ ln) (hln : ln < 2 ^ 30) : kx_Mv l yy_It_setCut ww_It_setCut ({ frames := 0, cells := 0, slots := 0, locals := 0 }) D vwCl (kx_ty cI cJ cZ) [.ref t, .int (-1), .int v1, .int v2, .int v3] [(t, .inr (4, [.int (nI cn), .ref i1, .ref i2, .ref i3, .ref i4, .ref i5, .ref i6, .ref i7, .ref i8, .ref i9])), (i3, .inl (cI, ln, .inl ia)), (i4, .inl (cI, ln, .inl ib)), (i5, .inl (cI, ln, .inl if_))] sz (fun (u : Unit) => True) (fun (u : Unit) => [(t, .inr (4, [.int (nI cn), .ref i1, .ref i2, .ref i3, .ref i4, .ref i5, .ref i6, .ref i7, .ref i8, .ref i9])), (i3, .inl (cI, ln, .inl ia)), (i4, .inl (cI, ln, .inl ib)), (i5, .inl (cI, ln, .inl if_))]) 0 0 := by
  refine kx_startv (by decide) rfl (Nat.le_of_ble_eq_true rfl) ?_
  intro p e s m below meth c A ls hx hb hr hml hts hown hlocks hin hP hK hN hD hA hS hl
  have hl : lv_has ls 5 [(0, .ref t), (1, .int (-1)), (2, .int v1), (3, .int v2), (4, .int v3)] := hl
  have hown : s.vm.findClass rr_It = some m.cls := hown
  obtain ⟨H, hH⟩ : ∃ H, H = s.heap := ⟨_, rfl⟩
  obtain ⟨locs, hlocs⟩ : ∃ z : List Loc, z = [] := ⟨_, rfl⟩
  have hP : va_P D vwCl [(t, .inr (4, [.int (nI cn), .ref i1, .ref i2, .ref i3, .ref i4, .ref i5, .ref i6, .ref i7, .ref i8, .ref i9])), (i3, .inl (cI, ln, .inl ia)), (i4, .inl (cI, ln, .inl ib)), (i5, .inl (cI, ln, .inl if_))] H := by rw [hH]; exact hP
  have hS : va_S A s.heap H locs := by rw [hH, hlocs]; exact hS
  refine kx_gen hH hlocs ?_
  clear hH hlocs
  refine kx_nameQ (fun Q hQ => ?_)
  refine lv_iload_n hx hb dd_It_setCut_0 rfl (lv_at hl 1 rfl) ?_
  refine lv_if_lt (tgt := 12) hx hb dd_It_setCut_1 (by decide) (fun _ => ?_) (fun h => absurd (by decide +kernel) h)
  rw [hQ]
  exact kx_vret hx hb hr hlocks hK hN hS dd_It_setCut_12 () hP hD trivial


set_option maxHeartbeats 4000000 in
set_option maxRecDepth 100000 in
theorem ct_It_addSpring_n (l : Launch) (D : va_G) (cI cJ cZ : ClassId) (sz : Nat) (t : Nat) (cn : Nat) (i1 : Nat) (i2 : Nat) (i3 : Nat) (i4 : Nat) (i5 : Nat) (i6 : Nat) (i7 : Nat) (i8 : Nat) (i9 : Nat) (ln : Nat) (is_ : Nat → Int64) (ih : Nat → Int64) (ij : Nat → Int64) (v1 : Int32) (v2 : Int32) (v3 : Int32) (hc : cn ≤ ln) (hln : ln < 2 ^ 30) : kx_Mv l yy_It_addSpring ww_It_addSpring ({ frames := 0, cells := 0, slots := 0, locals := 0 }) D vwCl (kx_ty cI cJ cZ) [.ref t, .int (-1), .int v1, .int v2, .int v3] [(t, .inr (4, [.int (nI cn), .ref i1, .ref i2, .ref i3, .ref i4, .ref i5, .ref i6, .ref i7, .ref i8, .ref i9])), (i7, .inl (cJ, (ln + 1), .inr (.inl is_))), (i8, .inl (cJ, (ln + 1), .inr (.inl ih))), (i9, .inl (cJ, (ln + 1), .inr (.inl ij)))] sz (fun (u : Unit) => True) (fun (u : Unit) => [(t, .inr (4, [.int (nI cn), .ref i1, .ref i2, .ref i3, .ref i4, .ref i5, .ref i6, .ref i7, .ref i8, .ref i9])), (i7, .inl (cJ, (ln + 1), .inr (.inl is_))), (i8, .inl (cJ, (ln + 1), .inr (.inl ih))), (i9, .inl (cJ, (ln + 1), .inr (.inl ij)))]) 0 0 := by
  refine kx_startv (by decide) rfl (Nat.le_of_ble_eq_true rfl) ?_
  intro p e s m below meth c A ls hx hb hr hml hts hown hlocks hin hP hK hN hD hA hS hl
  have hl : lv_has ls 5 [(0, .ref t), (1, .int (-1)), (2, .int v1), (3, .int v2), (4, .int v3)] := hl
  have hown : s.vm.findClass rr_It = some m.cls := hown
  obtain ⟨H, hH⟩ : ∃ H, H = s.heap := ⟨_, rfl⟩
  obtain ⟨locs, hlocs⟩ : ∃ z : List Loc, z = [] := ⟨_, rfl⟩
  have hP : va_P D vwCl [(t, .inr (4, [.int (nI cn), .ref i1, .ref i2, .ref i3, .ref i4, .ref i5, .ref i6, .ref i7, .ref i8, .ref i9])), (i7, .inl (cJ, (ln + 1), .inr (.inl is_))), (i8, .inl (cJ, (ln + 1), .inr (.inl ih))), (i9, .inl (cJ, (ln + 1), .inr (.inl ij)))] H := by rw [hH]; exact hP
  have hS : va_S A s.heap H locs := by rw [hH, hlocs]; exact hS
  refine kx_gen hH hlocs ?_
  clear hH hlocs
  refine kx_nameQ (fun Q hQ => ?_)
  refine lv_iload_n hx hb dd_It_addSpring_0 rfl (lv_at hl 1 rfl) ?_
  refine lv_if_lt (tgt := 12) hx hb dd_It_addSpring_1 (by decide) (fun _ => ?_) (fun h => absurd (by decide +kernel) h)
  rw [hQ]
  exact kx_vret hx hb hr hlocks hK hN hS dd_It_addSpring_12 () hP hD trivial
