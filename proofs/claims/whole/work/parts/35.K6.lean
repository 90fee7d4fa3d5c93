theorem pk_adj : ∀ a, a ≤ 3 → ∀ b, b ≤ 3 → (pm_adj a b ↔ ¬ (if 0 ≤ nI a - nI b then nI a - nI b else 0 - (nI a - nI b)) ≤ nI 1) := by
  intro a ha b hb
  rcases (show a = 0 ∨ a = 1 ∨ a = 2 ∨ a = 3 by omega) with h | h | h | h <;> rcases (show b = 0 ∨ b = 1 ∨ b = 2 ∨ b = 3 by omega) with q | q | q | q <;> subst h <;> subst q <;> decide +kernel

theorem kw_102 : Cond.fieldLink rr_Se (97) "LineDesk$Settings" "rules" "[I" ∈ kx_T := kx_in (i := 102) (by decide +kernel) (by decide +kernel)
theorem kw_110 : Cond.fieldLink rr_Sg (25) "LineDesk$Settings" "measures" "[I" ∈ kx_T := kx_in (i := 110) (by decide +kernel) (by decide +kernel)
theorem kw_111 : Cond.fieldLink rr_Sg (28) "LineDesk$Settings" "measureCount" "I" ∈ kx_T := kx_in (i := 111) (by decide +kernel) (by decide +kernel)
theorem kw_233 : Cond.fieldLink rr_Se (177) "LineDesk$Fit" "badness" "I" ∈ kx_T := kx_in (i := 233) (by decide +kernel) (by decide +kernel)
theorem kw_236 : Cond.fieldLink rr_Se (180) "LineDesk$Fit" "fitClass" "I" ∈ kx_T := kx_in (i := 236) (by decide +kernel) (by decide +kernel)
theorem kw_239 : Cond.fieldLink rr_Se (173) "LineDesk$Fit" "out" "J" ∈ kx_T := kx_in (i := 239) (by decide +kernel) (by decide +kernel)
theorem kw_278 : Cond.fieldLink rr_Se (9) "LineDesk$Search" "settings" "LLineDesk$Settings;" ∈ kx_T := kx_in (i := 278) (by decide +kernel) (by decide +kernel)
theorem kw_284 : Cond.fieldLink rr_Se (29) "LineDesk$Search" "fit" "LLineDesk$Fit;" ∈ kx_T := kx_in (i := 284) (by decide +kernel) (by decide +kernel)
theorem kw_289 : Cond.fieldLink rr_Se (61) "LineDesk$Search" "pass" "I" ∈ kx_T := kx_in (i := 289) (by decide +kernel) (by decide +kernel)
theorem kw_692 : Cond.methodLink rr_Sg (42) yy_Ma_min_0 ∈ kx_T := kx_in (i := 692) (by decide +kernel) (by decide +kernel)
theorem kw_693 : Cond.methodLink rr_Sg (48) yy_Ma_max ∈ kx_T := kx_in (i := 693) (by decide +kernel) (by decide +kernel)
theorem kw_733 : Cond.methodLink rr_Se (212) yy_Ma_abs ∈ kx_T := kx_in (i := 733) (by decide +kernel) (by decide +kernel)
theorem kw_734 : Cond.static yy_Ma_abs ∈ kx_T := kx_in (i := 734) (by decide +kernel) (by decide +kernel)
set_option maxRecDepth 100000 in
theorem kw_735 : Cond.code yy_Ma_abs bb_Ma_abs 1 (some .int) ∈ kx_T := kx_in (i := 735) rfl (by decide +kernel)
theorem dd_Sg_measureOf_0 : decode bb_Sg_measureOf 0 = .ok (.aload_n 0, 1) := by decide +kernel
theorem dd_Sg_measureOf_1 : decode bb_Sg_measureOf 1 = .ok (.getfield 25, 3) := by decide +kernel
theorem dd_Sg_measureOf_4 : decode bb_Sg_measureOf 4 = .ok (.iconst 1, 1) := by decide +kernel
theorem dd_Sg_measureOf_5 : decode bb_Sg_measureOf 5 = .ok (.iload_n 1, 1) := by decide +kernel
theorem dd_Sg_measureOf_6 : decode bb_Sg_measureOf 6 = .ok (.aload_n 0, 1) := by decide +kernel
theorem dd_Sg_measureOf_7 : decode bb_Sg_measureOf 7 = .ok (.getfield 28, 3) := by decide +kernel
theorem dd_Sg_measureOf_10 : decode bb_Sg_measureOf 10 = .ok (.invokestatic 42, 3) := by decide +kernel
theorem dd_Sg_measureOf_13 : decode bb_Sg_measureOf 13 = .ok (.invokestatic 48, 3) := by decide +kernel
theorem dd_Sg_measureOf_16 : decode bb_Sg_measureOf 16 = .ok (.iconst 1, 1) := by decide +kernel
theorem dd_Sg_measureOf_17 : decode bb_Sg_measureOf 17 = .ok (.isub, 1) := by decide +kernel
theorem dd_Sg_measureOf_18 : decode bb_Sg_measureOf 18 = .ok (.iaload, 1) := by decide +kernel
theorem dd_Sg_measureOf_19 : decode bb_Sg_measureOf 19 = .ok (.i2l, 1) := by decide +kernel
theorem dd_Sg_measureOf_20 : decode bb_Sg_measureOf 20 = .ok (.lreturn, 1) := by decide +kernel

set_option maxHeartbeats 4000000 in
set_option maxRecDepth 100000 in
theorem ct_Sg_measureOf (l : Launch) (D : va_G) (cI cJ cZ : ClassId) (sz : Nat) (g : Nat) (g0 : Nat) (g1 : Nat) (g2 : Nat) (g3 : Nat) (mc : Nat) (lm : Nat) (ms : Nat → Int32) (n : Nat) (h1 : 1 ≤ mc) (h2 : mc ≤ lm) (h3 : lm < 2 ^ 30) (h4 : n < 2 ^ 30) : kx_Ml l yy_Sg_measureOf ww_Sg_measureOf ({ frames := 1, cells := 0, slots := 0, locals := 21 }) D vwCl (kx_ty cI cJ cZ) [.ref g, .int (nI n)] [(g, .inr (8, [.ref g0, .ref g1, .ref g2, .ref g3, .int (nI mc)])), (g3, .inl (cI, lm, .inl ms))] sz (fun (r : Int64) (u : Unit) => r = (ms (max 1 (min n mc) - 1)).toInt64) (fun (u : Unit) => [(g, .inr (8, [.ref g0, .ref g1, .ref g2, .ref g3, .int (nI mc)])), (g3, .inl (cI, lm, .inl ms))]) 0 0 := by
  refine kx_startl (by decide) rfl (Nat.le_of_ble_eq_true rfl) ?_
  intro p e s m below meth c A ls hx hb hr hml hts hown hlocks hin hP hK hN hD hA hS hl
  have hl : lv_has ls 2 [(0, .ref g), (1, .int (nI n))] := hl
  have hown : s.vm.findClass rr_Sg = some m.cls := hown
  have lk0 := hts _ (kx_m kw_110)
  have hin8 : ∀ w ∈ u_ws rr_Sg tt_Sg 5, w ∈ ww_Sg_measureOf := fun w h => kx_m (kf_Sg w h)
  have lk2 := hts _ (kx_m kw_111)
  obtain ⟨H, hH⟩ : ∃ H, H = s.heap := ⟨_, rfl⟩
  obtain ⟨locs, hlocs⟩ : ∃ z : List Loc, z = [] := ⟨_, rfl⟩
  have hP : va_P D vwCl [(g, .inr (8, [.ref g0, .ref g1, .ref g2, .ref g3, .int (nI mc)])), (g3, .inl (cI, lm, .inl ms))] H := by rw [hH]; exact hP
  have hS : va_S A s.heap H locs := by rw [hH, hlocs]; exact hS
  refine kx_gen hH hlocs ?_
  clear hH hlocs
  refine kx_nameQ (fun Q hQ => ?_)
  refine lv_aload_n hx hb dd_Sg_measureOf_0 rfl (lv_at hl 0 rfl) ?_
  refine va_get (D := D) (ci := 8) (v := .ref g3) (C := rr_Sg) (T := tt_Sg) (N := 5) hx hb hts hin8 hown hK hP 0 kg_2_0 rfl 3 (by decide) lk0 (fun _ h9 => h9) rfl dd_Sg_measureOf_1 ?_
  refine lv_iconst (v := nI 1) hx hb dd_Sg_measureOf_4 (by decide) ?_
  refine lv_iload_n hx hb dd_Sg_measureOf_5 rfl (lv_at hl 1 rfl) ?_
  refine lv_aload_n hx hb dd_Sg_measureOf_6 rfl (lv_at hl 0 rfl) ?_
  refine va_get (D := D) (ci := 8) (v := .int (nI mc)) (C := rr_Sg) (T := tt_Sg) (N := 5) hx hb hts hin8 hown hK hP 0 kg_2_0 rfl 4 (by decide) lk2 (fun _ h9 => h9) rfl dd_Sg_measureOf_7 ?_
  refine va_mmin hx hb (by rw [hml]; exact hl.1.symm) hown (hts _ (kx_m kw_692)) (hts _ (kx_m kw_421)) (hts _ (kx_m kw_54)) (hts _ (kx_m kw_422)) (Nat.le_of_ble_eq_true rfl) (Nat.le_of_ble_eq_true rfl) (Nat.zero_le _) (Nat.zero_le _) dd_Sg_measureOf_10 ?_
  refine kx_toN (n := min n mc) (kn_min (by omega) (by omega)) ?_
  refine va_mmax hx hb (by rw [hml]; exact hl.1.symm) hown (hts _ (kx_m kw_693)) (hts _ (kx_m kw_424)) (hts _ (kx_m kw_54)) (hts _ (kx_m kw_425)) (Nat.le_of_ble_eq_true rfl) (Nat.le_of_ble_eq_true rfl) (Nat.zero_le _) (Nat.zero_le _) dd_Sg_measureOf_13 ?_
  refine kx_toN (n := max 1 (min n mc)) (kn_max (by omega) (by omega)) ?_
  refine lv_iconst (v := nI 1) hx hb dd_Sg_measureOf_16 (by decide) ?_
  refine kx_isub hx hb dd_Sg_measureOf_17 (by omega) ?_
  refine kx_iald (q0 := 1) (t0 := 0) hx hb dd_Sg_measureOf_18 hK hP kg_2_1 rfl (by omega) (by omega) ?_
  refine lv_i2l hx hb dd_Sg_measureOf_19 rfl ?_
  rw [hQ]
  exact kx_lret hx hb hr hlocks hK hN hS dd_Sg_measureOf_20 () hP hD rfl

theorem dd_Se_isAllowed_0 : decode bb_Se_isAllowed 0 = .ok (.aload_n 0, 1) := by decide +kernel
theorem dd_Se_isAllowed_1 : decode bb_Se_isAllowed 1 = .ok (.getfield 61, 3) := by decide +kernel
theorem dd_Se_isAllowed_4 : decode bb_Se_isAllowed 4 = .ok (.iconst 3, 1) := by decide +kernel
theorem dd_Se_isAllowed_5 : decode bb_Se_isAllowed 5 = .ok (.if_icmp .ne (5), 3) := by decide +kernel
theorem dd_Se_isAllowed_8 : decode bb_Se_isAllowed 8 = .ok (.iconst 1, 1) := by decide +kernel
theorem dd_Se_isAllowed_9 : decode bb_Se_isAllowed 9 = .ok (.ireturn, 1) := by decide +kernel
theorem dd_Se_isAllowed_10 : decode bb_Se_isAllowed 10 = .ok (.aload_n 0, 1) := by decide +kernel
theorem dd_Se_isAllowed_11 : decode bb_Se_isAllowed 11 = .ok (.getfield 9, 3) := by decide +kernel
theorem dd_Se_isAllowed_14 : decode bb_Se_isAllowed 14 = .ok (.getfield 97, 3) := by decide +kernel
theorem dd_Se_isAllowed_17 : decode bb_Se_isAllowed 17 = .ok (.aload_n 0, 1) := by decide +kernel
theorem dd_Se_isAllowed_18 : decode bb_Se_isAllowed 18 = .ok (.getfield 61, 3) := by decide +kernel
theorem dd_Se_isAllowed_21 : decode bb_Se_isAllowed 21 = .ok (.iconst 1, 1) := by decide +kernel
theorem dd_Se_isAllowed_22 : decode bb_Se_isAllowed 22 = .ok (.if_icmp .ne (7), 3) := by decide +kernel
theorem dd_Se_isAllowed_25 : decode bb_Se_isAllowed 25 = .ok (.iconst 0, 1) := by decide +kernel
theorem dd_Se_isAllowed_26 : decode bb_Se_isAllowed 26 = .ok (.goto (4), 3) := by decide +kernel
theorem dd_Se_isAllowed_29 : decode bb_Se_isAllowed 29 = .ok (.iconst 1, 1) := by decide +kernel
theorem dd_Se_isAllowed_30 : decode bb_Se_isAllowed 30 = .ok (.iaload, 1) := by decide +kernel
theorem dd_Se_isAllowed_31 : decode bb_Se_isAllowed 31 = .ok (.istore_n 1, 1) := by decide +kernel
theorem dd_Se_isAllowed_32 : decode bb_Se_isAllowed 32 = .ok (.aload_n 0, 1) := by decide +kernel
theorem dd_Se_isAllowed_33 : decode bb_Se_isAllowed 33 = .ok (.getfield 29, 3) := by decide +kernel
theorem dd_Se_isAllowed_36 : decode bb_Se_isAllowed 36 = .ok (.getfield 173, 3) := by decide +kernel
theorem dd_Se_isAllowed_39 : decode bb_Se_isAllowed 39 = .ok (.lconst 0, 1) := by decide +kernel
theorem dd_Se_isAllowed_40 : decode bb_Se_isAllowed 40 = .ok (.lcmp, 1) := by decide +kernel
theorem dd_Se_isAllowed_41 : decode bb_Se_isAllowed 41 = .ok (.ifCond .ne (18), 3) := by decide +kernel
theorem dd_Se_isAllowed_44 : decode bb_Se_isAllowed 44 = .ok (.aload_n 0, 1) := by decide +kernel
theorem dd_Se_isAllowed_45 : decode bb_Se_isAllowed 45 = .ok (.getfield 29, 3) := by decide +kernel
theorem dd_Se_isAllowed_48 : decode bb_Se_isAllowed 48 = .ok (.getfield 177, 3) := by decide +kernel
theorem dd_Se_isAllowed_51 : decode bb_Se_isAllowed 51 = .ok (.iload_n 1, 1) := by decide +kernel
theorem dd_Se_isAllowed_52 : decode bb_Se_isAllowed 52 = .ok (.if_icmp .gt (7), 3) := by decide +kernel
theorem dd_Se_isAllowed_55 : decode bb_Se_isAllowed 55 = .ok (.iconst 1, 1) := by decide +kernel
theorem dd_Se_isAllowed_56 : decode bb_Se_isAllowed 56 = .ok (.goto (4), 3) := by decide +kernel
theorem dd_Se_isAllowed_59 : decode bb_Se_isAllowed 59 = .ok (.iconst 0, 1) := by decide +kernel
theorem dd_Se_isAllowed_60 : decode bb_Se_isAllowed 60 = .ok (.ireturn, 1) := by decide +kernel

set_option maxHeartbeats 4000000 in
set_option maxRecDepth 100000 in
theorem ct_Se_isAllowed (l : Launch) (D : va_G) (cI cJ cZ : ClassId) (sz : Nat) (h : Nat) (t : Nat) (v1 : Nat) (v2 : Nat) (v3 : Nat) (v4 : Nat) (v5 : Nat) (v6 : Nat) (v7 : Nat) (ps : Nat) (ly : Nat) (op : Int32) (pl : Nat) (wl : Nat) (wc : Nat) (k : Nat) (g : Nat) (g0 : Nat) (g1 : Nat) (g2 : Nat) (g3 : Nat) (mc : Nat) (ru : Nat → Int32) (f : Nat) (fb : Int32) (fc : Nat) (fo : Int64) (h1 : 1 ≤ ps) (h3 : ps ≤ 3) : kx_Mi l yy_Se_isAllowed ww_Se_isAllowed ({ frames := 0, cells := 0, slots := 0, locals := 0 }) D vwCl (kx_ty cI cJ cZ) [.ref h] [(h, .inr (7, [.ref g, .ref t, .ref k, .ref f, .ref v1, .ref v2, .ref v3, .ref v4, .int (nI ps), .int (nI ly), .int op, .int (nI pl), .int (nI wl), .int (nI wc), .ref v5, .ref v6, .ref v7])), (g, .inr (8, [.ref g0, .ref g1, .ref g2, .ref g3, .int (nI mc)])), (g0, .inl (cI, 9, .inl ru)), (f, .inr (3, [.int fb, .int (nI fc), .long fo]))] sz (fun (r : Int32) (u : Unit) => r = kb_p (pm_ok ru ps fb fo)) (fun (u : Unit) => [(h, .inr (7, [.ref g, .ref t, .ref k, .ref f, .ref v1, .ref v2, .ref v3, .ref v4, .int (nI ps), .int (nI ly), .int op, .int (nI pl), .int (nI wl), .int (nI wc), .ref v5, .ref v6, .ref v7])), (g, .inr (8, [.ref g0, .ref g1, .ref g2, .ref g3, .int (nI mc)])), (g0, .inl (cI, 9, .inl ru)), (f, .inr (3, [.int fb, .int (nI fc), .long fo]))]) 0 0 := by
  refine kx_starti (by decide) rfl (Nat.le_of_ble_eq_true rfl) ?_
  intro p e s m below meth c A ls hx hb hr hml hts hown hlocks hin hP hK hN hD hA hS hl
  have hl : lv_has ls 2 [(0, .ref h)] := hl
  have hown : s.vm.findClass rr_Se = some m.cls := hown
  have lk0 := hts _ (kx_m kw_289)
  have hin7 : ∀ w ∈ u_ws rr_Se tt_Se 17, w ∈ ww_Se_isAllowed := fun w h => kx_m (kf_Se w h)
  have lk2 := hts _ (kx_m kw_278)
  have lk3 := hts _ (kx_m kw_102)
  have hin8 : ∀ w ∈ u_ws rr_Sg tt_Sg 5, w ∈ ww_Se_isAllowed := fun w h => kx_m (kf_Sg w h)
  have lk5 := hts _ (kx_m kw_284)
  have lk6 := hts _ (kx_m kw_239)
  have hin3 : ∀ w ∈ u_ws rr_Ft tt_Ft 3, w ∈ ww_Se_isAllowed := fun w h => kx_m (kf_Ft w h)
  have lk8 := hts _ (kx_m kw_233)
  obtain ⟨H, hH⟩ : ∃ H, H = s.heap := ⟨_, rfl⟩
  obtain ⟨locs, hlocs⟩ : ∃ z : List Loc, z = [] := ⟨_, rfl⟩
  have hP : va_P D vwCl [(h, .inr (7, [.ref g, .ref t, .ref k, .ref f, .ref v1, .ref v2, .ref v3, .ref v4, .int (nI ps), .int (nI ly), .int op, .int (nI pl), .int (nI wl), .int (nI wc), .ref v5, .ref v6, .ref v7])), (g, .inr (8, [.ref g0, .ref g1, .ref g2, .ref g3, .int (nI mc)])), (g0, .inl (cI, 9, .inl ru)), (f, .inr (3, [.int fb, .int (nI fc), .long fo]))] H := by rw [hH]; exact hP
  have hS : va_S A s.heap H locs := by rw [hH, hlocs]; exact hS
  refine kx_gen hH hlocs ?_
  clear hH hlocs
  refine kx_nameQ (fun Q hQ => ?_)
  refine lv_aload_n hx hb dd_Se_isAllowed_0 rfl (lv_at hl 0 rfl) ?_
  refine va_get (D := D) (ci := 7) (v := .int (nI ps)) (C := rr_Se) (T := tt_Se) (N := 17) hx hb hts hin7 hown hK hP 0 kg_4_0 rfl 8 (by decide) lk0 (fun _ h9 => h9) rfl dd_Se_isAllowed_1 ?_
  refine lv_iconst (v := nI 3) hx hb dd_Se_isAllowed_4 (by decide) ?_
  refine lv_icmp_ne (tgt := 10) hx hb dd_Se_isAllowed_5 (by decide) (fun c5 => ?_) (fun c5 => ?_)
  · skip
    have c5 : ¬ (ps = 3) := fun h => c5 ((nI_eq (by omega) (by omega)).mpr h)
    refine lv_aload_n hx hb dd_Se_isAllowed_10 rfl (lv_at hl 0 rfl) ?_
    refine va_get (D := D) (ci := 7) (v := .ref g) (C := rr_Se) (T := tt_Se) (N := 17) hx hb hts hin7 hown hK hP 0 kg_4_0 rfl 0 (by decide) lk2 (fun _ h9 => h9) rfl dd_Se_isAllowed_11 ?_
    refine va_get (D := D) (ci := 8) (v := .ref g0) (C := rr_Sg) (T := tt_Sg) (N := 5) hx hb hts hin8 hown hK hP 1 kg_4_1 rfl 0 (by decide) lk3 (fun _ h9 => h9) rfl dd_Se_isAllowed_14 ?_
    refine lv_aload_n hx hb dd_Se_isAllowed_17 rfl (lv_at hl 0 rfl) ?_
    refine va_get (D := D) (ci := 7) (v := .int (nI ps)) (C := rr_Se) (T := tt_Se) (N := 17) hx hb hts hin7 hown hK hP 0 kg_4_0 rfl 8 (by decide) lk0 (fun _ h9 => h9) rfl dd_Se_isAllowed_18 ?_
    refine lv_iconst (v := nI 1) hx hb dd_Se_isAllowed_21 (by decide) ?_
    refine lv_icmp_ne (tgt := 29) hx hb dd_Se_isAllowed_22 (by decide) (fun c22 => ?_) (fun c22 => ?_)
    · skip
      have c22 : ¬ (ps = 1) := fun h => c22 ((nI_eq (by omega) (by omega)).mpr h)
      refine lv_iconst (v := nI 1) hx hb dd_Se_isAllowed_29 (by decide) ?_
      refine kx_iald (q0 := 2) (t0 := 0) hx hb dd_Se_isAllowed_30 hK hP kg_4_2 rfl (by omega) (by omega) ?_
      refine lv_istore_n (lv' := [(1, .int (ru 1)), (0, .ref h)]) hx hb dd_Se_isAllowed_31 rfl hl (by decide) rfl (fun ls hl => ?_)
      refine lv_aload_n hx hb dd_Se_isAllowed_32 rfl (lv_at hl 1 rfl) ?_
      refine va_get (D := D) (ci := 7) (v := .ref f) (C := rr_Se) (T := tt_Se) (N := 17) hx hb hts hin7 hown hK hP 0 kg_4_0 rfl 3 (by decide) lk5 (fun _ h9 => h9) rfl dd_Se_isAllowed_33 ?_
      refine va_get (D := D) (ci := 3) (v := .long fo) (C := rr_Ft) (T := tt_Ft) (N := 3) hx hb hts hin3 hown hK hP 3 kg_4_3 rfl 2 (by decide) lk6 (fun _ h9 => h9) rfl dd_Se_isAllowed_36 ?_
      refine lv_lconst (v := 0) hx hb dd_Se_isAllowed_39 (by decide) ?_
      refine W.lcmp hx hb dd_Se_isAllowed_40 ?_
      refine lv_if_ne (tgt := 59) hx hb dd_Se_isAllowed_41 (by decide) (fun c41 => ?_) (fun c41 => ?_)
      · skip
        have c41 : ¬ (fo = (0 : Int64)) := fun h => c41 ((lg_cmp_eq _ _).mpr h)
        refine lv_iconst (v := nI 0) hx hb dd_Se_isAllowed_59 (by decide) ?_
        rw [hQ]
        exact kx_zret hx hb hr hlocks hK hN hS dd_Se_isAllowed_60 (by decide) () hP hD (by first | exact kb_t (Or.inl c5) | (refine kb_t (Or.inr ⟨c41, ?_⟩); first | (rw [c22]; exact c52) | (rw [show ps - 1 = 1 by omega]; exact c52)) | exact kb_f (fun q => q.elim c5 (fun z => c41 z.1)) | (refine kb_f (fun q => q.elim c5 (fun z => z.2 ?_)); first | (rw [c22]; exact c52) | (rw [show ps - 1 = 1 by omega]; exact c52)))
      · skip
        have c41 := (lg_cmp_eq _ _).mp c41
        refine lv_aload_n hx hb dd_Se_isAllowed_44 rfl (lv_at hl 1 rfl) ?_
        refine va_get (D := D) (ci := 7) (v := .ref f) (C := rr_Se) (T := tt_Se) (N := 17) hx hb hts hin7 hown hK hP 0 kg_4_0 rfl 3 (by decide) lk5 (fun _ h9 => h9) rfl dd_Se_isAllowed_45 ?_
        refine va_get (D := D) (ci := 3) (v := .int fb) (C := rr_Ft) (T := tt_Ft) (N := 3) hx hb hts hin3 hown hK hP 3 kg_4_3 rfl 0 (by decide) lk8 (fun _ h9 => h9) rfl dd_Se_isAllowed_48 ?_
        refine lv_iload_n hx hb dd_Se_isAllowed_51 rfl (lv_at hl 0 rfl) ?_
        refine lv_icmp_gt (tgt := 59) hx hb dd_Se_isAllowed_52 (by decide) (fun c52 => ?_) (fun c52 => ?_)
        · skip
          refine lv_iconst (v := nI 0) hx hb dd_Se_isAllowed_59 (by decide) ?_
          rw [hQ]
          exact kx_zret hx hb hr hlocks hK hN hS dd_Se_isAllowed_60 (by decide) () hP hD (by first | exact kb_t (Or.inl c5) | (refine kb_t (Or.inr ⟨c41, ?_⟩); first | (rw [c22]; exact c52) | (rw [show ps - 1 = 1 by omega]; exact c52)) | exact kb_f (fun q => q.elim c5 (fun z => c41 z.1)) | (refine kb_f (fun q => q.elim c5 (fun z => z.2 ?_)); first | (rw [c22]; exact c52) | (rw [show ps - 1 = 1 by omega]; exact c52)))
        · skip
          refine lv_iconst (v := nI 1) hx hb dd_Se_isAllowed_55 (by decide) ?_
          refine lv_goto (tgt := 60) hx hb dd_Se_isAllowed_56 (by decide) ?_
          rw [hQ]
          exact kx_zret hx hb hr hlocks hK hN hS dd_Se_isAllowed_60 (by decide) () hP hD (by first | exact kb_t (Or.inl c5) | (refine kb_t (Or.inr ⟨c41, ?_⟩); first | (rw [c22]; exact c52) | (rw [show ps - 1 = 1 by omega]; exact c52)) | exact kb_f (fun q => q.elim c5 (fun z => c41 z.1)) | (refine kb_f (fun q => q.elim c5 (fun z => z.2 ?_)); first | (rw [c22]; exact c52) | (rw [show ps - 1 = 1 by omega]; exact c52)))
    · skip
      have c22 : ps = 1 := (nI_eq (by omega) (by omega)).mp c22
      refine lv_iconst (v := nI 0) hx hb dd_Se_isAllowed_25 (by decide) ?_
      refine lv_goto (tgt := 30) hx hb dd_Se_isAllowed_26 (by decide) ?_
      refine kx_iald (q0 := 2) (t0 := 0) hx hb dd_Se_isAllowed_30 hK hP kg_4_2 rfl (by omega) (by omega) ?_
      refine lv_istore_n (lv' := [(1, .int (ru 0)), (0, .ref h)]) hx hb dd_Se_isAllowed_31 rfl hl (by decide) rfl (fun ls hl => ?_)
      refine lv_aload_n hx hb dd_Se_isAllowed_32 rfl (lv_at hl 1 rfl) ?_
      refine va_get (D := D) (ci := 7) (v := .ref f) (C := rr_Se) (T := tt_Se) (N := 17) hx hb hts hin7 hown hK hP 0 kg_4_0 rfl 3 (by decide) lk5 (fun _ h9 => h9) rfl dd_Se_isAllowed_33 ?_
      refine va_get (D := D) (ci := 3) (v := .long fo) (C := rr_Ft) (T := tt_Ft) (N := 3) hx hb hts hin3 hown hK hP 3 kg_4_3 rfl 2 (by decide) lk6 (fun _ h9 => h9) rfl dd_Se_isAllowed_36 ?_
      refine lv_lconst (v := 0) hx hb dd_Se_isAllowed_39 (by decide) ?_
      refine W.lcmp hx hb dd_Se_isAllowed_40 ?_
      refine lv_if_ne (tgt := 59) hx hb dd_Se_isAllowed_41 (by decide) (fun c41 => ?_) (fun c41 => ?_)
      · skip
        have c41 : ¬ (fo = (0 : Int64)) := fun h => c41 ((lg_cmp_eq _ _).mpr h)
        refine lv_iconst (v := nI 0) hx hb dd_Se_isAllowed_59 (by decide) ?_
        rw [hQ]
        exact kx_zret hx hb hr hlocks hK hN hS dd_Se_isAllowed_60 (by decide) () hP hD (by first | exact kb_t (Or.inl c5) | (refine kb_t (Or.inr ⟨c41, ?_⟩); first | (rw [c22]; exact c52) | (rw [show ps - 1 = 1 by omega]; exact c52)) | exact kb_f (fun q => q.elim c5 (fun z => c41 z.1)) | (refine kb_f (fun q => q.elim c5 (fun z => z.2 ?_)); first | (rw [c22]; exact c52) | (rw [show ps - 1 = 1 by omega]; exact c52)))
      · skip
        have c41 := (lg_cmp_eq _ _).mp c41
        refine lv_aload_n hx hb dd_Se_isAllowed_44 rfl (lv_at hl 1 rfl) ?_
        refine va_get (D := D) (ci := 7) (v := .ref f) (C := rr_Se) (T := tt_Se) (N := 17) hx hb hts hin7 hown hK hP 0 kg_4_0 rfl 3 (by decide) lk5 (fun _ h9 => h9) rfl dd_Se_isAllowed_45 ?_
        refine va_get (D := D) (ci := 3) (v := .int fb) (C := rr_Ft) (T := tt_Ft) (N := 3) hx hb hts hin3 hown hK hP 3 kg_4_3 rfl 0 (by decide) lk8 (fun _ h9 => h9) rfl dd_Se_isAllowed_48 ?_
        refine lv_iload_n hx hb dd_Se_isAllowed_51 rfl (lv_at hl 0 rfl) ?_
        refine lv_icmp_gt (tgt := 59) hx hb dd_Se_isAllowed_52 (by decide) (fun c52 => ?_) (fun c52 => ?_)
        · skip
          refine lv_iconst (v := nI 0) hx hb dd_Se_isAllowed_59 (by decide) ?_
          rw [hQ]
          exact kx_zret hx hb hr hlocks hK hN hS dd_Se_isAllowed_60 (by decide) () hP hD (by first | exact kb_t (Or.inl c5) | (refine kb_t (Or.inr ⟨c41, ?_⟩); first | (rw [c22]; exact c52) | (rw [show ps - 1 = 1 by omega]; exact c52)) | exact kb_f (fun q => q.elim c5 (fun z => c41 z.1)) | (refine kb_f (fun q => q.elim c5 (fun z => z.2 ?_)); first | (rw [c22]; exact c52) | (rw [show ps - 1 = 1 by omega]; exact c52)))
        · skip
          refine lv_iconst (v := nI 1) hx hb dd_Se_isAllowed_55 (by decide) ?_
          refine lv_goto (tgt := 60) hx hb dd_Se_isAllowed_56 (by decide) ?_
          rw [hQ]
          exact kx_zret hx hb hr hlocks hK hN hS dd_Se_isAllowed_60 (by decide) () hP hD (by first | exact kb_t (Or.inl c5) | (refine kb_t (Or.inr ⟨c41, ?_⟩); first | (rw [c22]; exact c52) | (rw [show ps - 1 = 1 by omega]; exact c52)) | exact kb_f (fun q => q.elim c5 (fun z => c41 z.1)) | (refine kb_f (fun q => q.elim c5 (fun z => z.2 ?_)); first | (rw [c22]; exact c52) | (rw [show ps - 1 = 1 by omega]; exact c52)))
  · skip
    have c5 : ps = 3 := (nI_eq (by omega) (by omega)).mp c5
    refine lv_iconst (v := nI 1) hx hb dd_Se_isAllowed_8 (by decide) ?_
    rw [hQ]
    exact kx_zret hx hb hr hlocks hK hN hS dd_Se_isAllowed_9 (by decide) () hP hD (by first | exact kb_t (Or.inl c5) | (refine kb_t (Or.inr ⟨c41, ?_⟩); first | (rw [c22]; exact c52) | (rw [show ps - 1 = 1 by omega]; exact c52)) | exact kb_f (fun q => q.elim c5 (fun z => c41 z.1)) | (refine kb_f (fun q => q.elim c5 (fun z => z.2 ?_)); first | (rw [c22]; exact c52) | (rw [show ps - 1 = 1 by omega]; exact c52)))

theorem dd_Se_adjacentTo_0 : decode bb_Se_adjacentTo 0 = .ok (.aload_n 0, 1) := by decide +kernel
theorem dd_Se_adjacentTo_1 : decode bb_Se_adjacentTo 1 = .ok (.getfield 29, 3) := by decide +kernel
theorem dd_Se_adjacentTo_4 : decode bb_Se_adjacentTo 4 = .ok (.getfield 180, 3) := by decide +kernel
theorem dd_Se_adjacentTo_7 : decode bb_Se_adjacentTo 7 = .ok (.iload_n 1, 1) := by decide +kernel
theorem dd_Se_adjacentTo_8 : decode bb_Se_adjacentTo 8 = .ok (.isub, 1) := by decide +kernel
theorem dd_Se_adjacentTo_9 : decode bb_Se_adjacentTo 9 = .ok (.invokestatic 212, 3) := by decide +kernel
theorem dd_Se_adjacentTo_12 : decode bb_Se_adjacentTo 12 = .ok (.iconst 1, 1) := by decide +kernel
theorem dd_Se_adjacentTo_13 : decode bb_Se_adjacentTo 13 = .ok (.if_icmp .le (16), 3) := by decide +kernel
theorem dd_Se_adjacentTo_16 : decode bb_Se_adjacentTo 16 = .ok (.aload_n 0, 1) := by decide +kernel
theorem dd_Se_adjacentTo_17 : decode bb_Se_adjacentTo 17 = .ok (.getfield 9, 3) := by decide +kernel
theorem dd_Se_adjacentTo_20 : decode bb_Se_adjacentTo 20 = .ok (.getfield 97, 3) := by decide +kernel
theorem dd_Se_adjacentTo_23 : decode bb_Se_adjacentTo 23 = .ok (.iconst 5, 1) := by decide +kernel
theorem dd_Se_adjacentTo_24 : decode bb_Se_adjacentTo 24 = .ok (.iaload, 1) := by decide +kernel
theorem dd_Se_adjacentTo_25 : decode bb_Se_adjacentTo 25 = .ok (.i2l, 1) := by decide +kernel
theorem dd_Se_adjacentTo_26 : decode bb_Se_adjacentTo 26 = .ok (.goto (4), 3) := by decide +kernel
theorem dd_Se_adjacentTo_29 : decode bb_Se_adjacentTo 29 = .ok (.lconst 0, 1) := by decide +kernel
theorem dd_Se_adjacentTo_30 : decode bb_Se_adjacentTo 30 = .ok (.lreturn, 1) := by decide +kernel

set_option maxHeartbeats 4000000 in
set_option maxRecDepth 100000 in
theorem ct_Se_adjacentTo (l : Launch) (D : va_G) (cI cJ cZ : ClassId) (sz : Nat) (h : Nat) (t : Nat) (v1 : Nat) (v2 : Nat) (v3 : Nat) (v4 : Nat) (v5 : Nat) (v6 : Nat) (v7 : Nat) (ps : Nat) (ly : Nat) (op : Int32) (pl : Nat) (wl : Nat) (wc : Nat) (k : Nat) (g : Nat) (g0 : Nat) (g1 : Nat) (g2 : Nat) (g3 : Nat) (mc : Nat) (ru : Nat → Int32) (f : Nat) (fb : Int32) (fc : Nat) (fo : Int64) (cb : Nat) (h1 : fc ≤ 3) (h2 : cb ≤ 3) : kx_Ml l yy_Se_adjacentTo ww_Se_adjacentTo ({ frames := 1, cells := 0, slots := 0, locals := 21 }) D vwCl (kx_ty cI cJ cZ) [.ref h, .int (nI cb)] [(h, .inr (7, [.ref g, .ref t, .ref k, .ref f, .ref v1, .ref v2, .ref v3, .ref v4, .int (nI ps), .int (nI ly), .int op, .int (nI pl), .int (nI wl), .int (nI wc), .ref v5, .ref v6, .ref v7])), (g, .inr (8, [.ref g0, .ref g1, .ref g2, .ref g3, .int (nI mc)])), (g0, .inl (cI, 9, .inl ru)), (f, .inr (3, [.int fb, .int (nI fc), .long fo]))] sz (fun (r : Int64) (u : Unit) => r = if pm_adj fc cb then (ru 5).toInt64 else 0) (fun (u : Unit) => [(h, .inr (7, [.ref g, .ref t, .ref k, .ref f, .ref v1, .ref v2, .ref v3, .ref v4, .int (nI ps), .int (nI ly), .int op, .int (nI pl), .int (nI wl), .int (nI wc), .ref v5, .ref v6, .ref v7])), (g, .inr (8, [.ref g0, .ref g1, .ref g2, .ref g3, .int (nI mc)])), (g0, .inl (cI, 9, .inl ru)), (f, .inr (3, [.int fb, .int (nI fc), .long fo]))]) 0 0 := by
  refine kx_startl (by decide) rfl (Nat.le_of_ble_eq_true rfl) ?_
  intro p e s m below meth c A ls hx hb hr hml hts hown hlocks hin hP hK hN hD hA hS hl
  have hl : lv_has ls 2 [(0, .ref h), (1, .int (nI cb))] := hl
  have hown : s.vm.findClass rr_Se = some m.cls := hown
  have lk0 := hts _ (kx_m kw_284)
  have hin7 : ∀ w ∈ u_ws rr_Se tt_Se 17, w ∈ ww_Se_adjacentTo := fun w h => kx_m (kf_Se w h)
  have lk2 := hts _ (kx_m kw_236)
  have hin3 : ∀ w ∈ u_ws rr_Ft tt_Ft 3, w ∈ ww_Se_adjacentTo := fun w h => kx_m (kf_Ft w h)
  have lk4 := hts _ (kx_m kw_278)
  have lk5 := hts _ (kx_m kw_102)
  have hin8 : ∀ w ∈ u_ws rr_Sg tt_Sg 5, w ∈ ww_Se_adjacentTo := fun w h => kx_m (kf_Sg w h)
  obtain ⟨H, hH⟩ : ∃ H, H = s.heap := ⟨_, rfl⟩
  obtain ⟨locs, hlocs⟩ : ∃ z : List Loc, z = [] := ⟨_, rfl⟩
  have hP : va_P D vwCl [(h, .inr (7, [.ref g, .ref t, .ref k, .ref f, .ref v1, .ref v2, .ref v3, .ref v4, .int (nI ps), .int (nI ly), .int op, .int (nI pl), .int (nI wl), .int (nI wc), .ref v5, .ref v6, .ref v7])), (g, .inr (8, [.ref g0, .ref g1, .ref g2, .ref g3, .int (nI mc)])), (g0, .inl (cI, 9, .inl ru)), (f, .inr (3, [.int fb, .int (nI fc), .long fo]))] H := by rw [hH]; exact hP
  have hS : va_S A s.heap H locs := by rw [hH, hlocs]; exact hS
  refine kx_gen hH hlocs ?_
  clear hH hlocs
  refine kx_nameQ (fun Q hQ => ?_)
  refine lv_aload_n hx hb dd_Se_adjacentTo_0 rfl (lv_at hl 0 rfl) ?_
  refine va_get (D := D) (ci := 7) (v := .ref f) (C := rr_Se) (T := tt_Se) (N := 17) hx hb hts hin7 hown hK hP 0 kg_4_0 rfl 3 (by decide) lk0 (fun _ h9 => h9) rfl dd_Se_adjacentTo_1 ?_
  refine va_get (D := D) (ci := 3) (v := .int (nI fc)) (C := rr_Ft) (T := tt_Ft) (N := 3) hx hb hts hin3 hown hK hP 3 kg_4_3 rfl 1 (by decide) lk2 (fun _ h9 => h9) rfl dd_Se_adjacentTo_4 ?_
  refine lv_iload_n hx hb dd_Se_adjacentTo_7 rfl (lv_at hl 1 rfl) ?_
  refine lv_isub hx hb dd_Se_adjacentTo_8 ?_
  refine va_mabs hx hb (by rw [hml]; exact hl.1.symm) hown (hts _ (kx_m kw_733)) (hts _ (kx_m kw_734)) (hts _ (kx_m kw_54)) (hts _ (kx_m kw_735)) (Nat.le_of_ble_eq_true rfl) (Nat.le_of_ble_eq_true rfl) (Nat.zero_le _) (Nat.zero_le _) dd_Se_adjacentTo_9 ?_
  refine lv_iconst (v := nI 1) hx hb dd_Se_adjacentTo_12 (by decide) ?_
  refine lv_icmp_le (tgt := 29) hx hb dd_Se_adjacentTo_13 (by decide) (fun c13 => ?_) (fun c13 => ?_)
  · skip
    refine lv_lconst (v := 0) hx hb dd_Se_adjacentTo_29 (by decide) ?_
    rw [hQ]
    exact kx_lret hx hb hr hlocks hK hN hS dd_Se_adjacentTo_30 () hP hD (by first | rw [if_pos ((pk_adj fc h1 cb h2).mpr c13)] | rw [if_neg (fun q => (pk_adj fc h1 cb h2).mp q c13)])
  · skip
    refine lv_aload_n hx hb dd_Se_adjacentTo_16 rfl (lv_at hl 0 rfl) ?_
    refine va_get (D := D) (ci := 7) (v := .ref g) (C := rr_Se) (T := tt_Se) (N := 17) hx hb hts hin7 hown hK hP 0 kg_4_0 rfl 0 (by decide) lk4 (fun _ h9 => h9) rfl dd_Se_adjacentTo_17 ?_
    refine va_get (D := D) (ci := 8) (v := .ref g0) (C := rr_Sg) (T := tt_Sg) (N := 5) hx hb hts hin8 hown hK hP 1 kg_4_1 rfl 0 (by decide) lk5 (fun _ h9 => h9) rfl dd_Se_adjacentTo_20 ?_
    refine lv_iconst (v := nI 5) hx hb dd_Se_adjacentTo_23 (by decide) ?_
    refine kx_iald (q0 := 2) (t0 := 0) hx hb dd_Se_adjacentTo_24 hK hP kg_4_2 rfl (by omega) (by omega) ?_
    refine lv_i2l hx hb dd_Se_adjacentTo_25 rfl ?_
    refine lv_goto (tgt := 30) hx hb dd_Se_adjacentTo_26 (by decide) ?_
    rw [hQ]
    exact kx_lret hx hb hr hlocks hK hN hS dd_Se_adjacentTo_30 () hP hD (by first | rw [if_pos ((pk_adj fc h1 cb h2).mpr c13)] | rw [if_neg (fun q => (pk_adj fc h1 cb h2).mp q c13)])
