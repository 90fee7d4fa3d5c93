/-! the nearest number of lines; the trail -/
theorem kn_abs {x y : Nat} (hx : x < 2 ^ 20) (hy : y < 2 ^ 20) : (if 0 ≤ nI x - nI y then nI x - nI y else 0 - (nI x - nI y)) = nI (x - y + (y - x)) := by
  rcases Nat.lt_or_ge x y with h | h
  · have e : (nI x - nI y).toInt = (x : Int) - y := pk_sub_toInt (by omega) (by omega)
    rw [if_neg (by rw [Int32.le_iff_toInt_le, e, show (0 : Int32).toInt = 0 from rfl]; omega)]
    apply Int32.toInt_inj.mp
    rw [Int32.toInt_sub, e, nI_toInt (by omega), show (0 : Int32).toInt = 0 from rfl]
    rw [Int.bmod_eq_of_le (by omega) (by omega)]
    omega
  · rw [pk_sub h, if_pos (by rw [← nI_0, nI_leI (by omega) (by omega)]; omega), show x - y + (y - x) = x - y by omega]

theorem kw_293 : Cond.fieldLink rr_Se (106) "LineDesk$Search" "wayLayer" "I" ∈ kx_T := kx_in (i := 293) (by decide +kernel) (by decide +kernel)
theorem kw_294 : Cond.fieldLink rr_Se (94) "LineDesk$Search" "wayCount" "I" ∈ kx_T := kx_in (i := 294) (by decide +kernel) (by decide +kernel)
theorem kw_295 : Cond.fieldLink rr_Se (51) "LineDesk$Search" "endClass" "[I" ∈ kx_T := kx_in (i := 295) (by decide +kernel) (by decide +kernel)
theorem kw_296 : Cond.fieldLink rr_Se (55) "LineDesk$Search" "trail" "[I" ∈ kx_T := kx_in (i := 296) (by decide +kernel) (by decide +kernel)
theorem dd_Se_nearestTo_0 : decode bb_Se_nearestTo 0 = .ok (.iload_n 1, 1) := by decide +kernel
theorem dd_Se_nearestTo_1 : decode bb_Se_nearestTo 1 = .ok (.iload_n 2, 1) := by decide +kernel
theorem dd_Se_nearestTo_2 : decode bb_Se_nearestTo 2 = .ok (.isub, 1) := by decide +kernel
theorem dd_Se_nearestTo_3 : decode bb_Se_nearestTo 3 = .ok (.invokestatic 212, 3) := by decide +kernel
theorem dd_Se_nearestTo_6 : decode bb_Se_nearestTo 6 = .ok (.istore_n 3, 1) := by decide +kernel
theorem dd_Se_nearestTo_7 : decode bb_Se_nearestTo 7 = .ok (.iload_n 3, 1) := by decide +kernel
theorem dd_Se_nearestTo_8 : decode bb_Se_nearestTo 8 = .ok (.ifCond .le (39), 3) := by decide +kernel
theorem dd_Se_nearestTo_11 : decode bb_Se_nearestTo 11 = .ok (.iload_n 1, 1) := by decide +kernel
theorem dd_Se_nearestTo_12 : decode bb_Se_nearestTo 12 = .ok (.iload_n 2, 1) := by decide +kernel
theorem dd_Se_nearestTo_13 : decode bb_Se_nearestTo 13 = .ok (.if_icmp .le (9), 3) := by decide +kernel
theorem dd_Se_nearestTo_16 : decode bb_Se_nearestTo 16 = .ok (.iload_n 2, 1) := by decide +kernel
theorem dd_Se_nearestTo_17 : decode bb_Se_nearestTo 17 = .ok (.iload_n 3, 1) := by decide +kernel
theorem dd_Se_nearestTo_18 : decode bb_Se_nearestTo 18 = .ok (.iadd, 1) := by decide +kernel
theorem dd_Se_nearestTo_19 : decode bb_Se_nearestTo 19 = .ok (.goto (6), 3) := by decide +kernel
theorem dd_Se_nearestTo_22 : decode bb_Se_nearestTo 22 = .ok (.iload_n 2, 1) := by decide +kernel
theorem dd_Se_nearestTo_23 : decode bb_Se_nearestTo 23 = .ok (.iload_n 3, 1) := by decide +kernel
theorem dd_Se_nearestTo_24 : decode bb_Se_nearestTo 24 = .ok (.isub, 1) := by decide +kernel
theorem dd_Se_nearestTo_25 : decode bb_Se_nearestTo 25 = .ok (.istore 4, 2) := by decide +kernel
theorem dd_Se_nearestTo_27 : decode bb_Se_nearestTo 27 = .ok (.aload_n 0, 1) := by decide +kernel
theorem dd_Se_nearestTo_28 : decode bb_Se_nearestTo 28 = .ok (.getfield 51, 3) := by decide +kernel
theorem dd_Se_nearestTo_31 : decode bb_Se_nearestTo 31 = .ok (.iload 4, 2) := by decide +kernel
theorem dd_Se_nearestTo_33 : decode bb_Se_nearestTo 33 = .ok (.iaload, 1) := by decide +kernel
theorem dd_Se_nearestTo_34 : decode bb_Se_nearestTo 34 = .ok (.iconst (-1), 1) := by decide +kernel
theorem dd_Se_nearestTo_35 : decode bb_Se_nearestTo 35 = .ok (.if_icmp .eq (6), 3) := by decide +kernel
theorem dd_Se_nearestTo_38 : decode bb_Se_nearestTo 38 = .ok (.iload 4, 2) := by decide +kernel
theorem dd_Se_nearestTo_40 : decode bb_Se_nearestTo 40 = .ok (.ireturn, 1) := by decide +kernel
theorem dd_Se_nearestTo_41 : decode bb_Se_nearestTo 41 = .ok (.iinc 3 (-1), 3) := by decide +kernel
theorem dd_Se_nearestTo_44 : decode bb_Se_nearestTo 44 = .ok (.goto (-37), 3) := by decide +kernel
theorem dd_Se_nearestTo_47 : decode bb_Se_nearestTo 47 = .ok (.iload_n 2, 1) := by decide +kernel
theorem dd_Se_nearestTo_48 : decode bb_Se_nearestTo 48 = .ok (.ireturn, 1) := by decide +kernel

set_option maxHeartbeats 4000000 in
set_option maxRecDepth 100000 in
theorem ct_Se_nearestTo (l : Launch) (D : va_G) (cI cJ cZ : ClassId) (sz : Nat) (h : Nat) (t : Nat) (v1 : Nat) (v2 : Nat) (v3 : Nat) (v4 : Nat) (v5 : Nat) (v6 : Nat) (v7 : Nat) (ps : Nat) (ly : Nat) (op : Int32) (pl : Nat) (wl : Nat) (wc : Nat) (g : Nat) (k : Nat) (f : Nat) (le : Nat) (ec : Nat → Int32) (go : Nat) (ow : Nat) (h1 : go < le) (h2 : ow < le) (hle : le < 2 ^ 20) : kx_Mi l yy_Se_nearestTo ww_Se_nearestTo ({ frames := 1, cells := 0, slots := 0, locals := 21 }) D vwCl (kx_ty cI cJ cZ) [.ref h, .int (nI go), .int (nI ow)] [(h, .inr (7, [.ref g, .ref t, .ref k, .ref f, .ref v1, .ref v2, .ref v3, .ref v4, .int (nI ps), .int (nI ly), .int op, .int (nI pl), .int (nI wl), .int (nI wc), .ref v5, .ref v6, .ref v7])), (v5, .inl (cI, le, .inl ec))] sz (fun (r : Int32) (u : Nat) => (r = nI u) ∧ ((go = ow → u = ow) ∧ (ow < go → ow ≤ u ∧ u ≤ go ∧ ∀ j, u < j → j ≤ go → ec j = (-1)) ∧ (go < ow → go ≤ u ∧ u ≤ ow ∧ ∀ j, go ≤ j → j < u → ec j = (-1)) ∧ (¬ u = ow → ¬ ec u = (-1)))) (fun (u : Nat) => [(h, .inr (7, [.ref g, .ref t, .ref k, .ref f, .ref v1, .ref v2, .ref v3, .ref v4, .int (nI ps), .int (nI ly), .int op, .int (nI pl), .int (nI wl), .int (nI wc), .ref v5, .ref v6, .ref v7])), (v5, .inl (cI, le, .inl ec))]) 0 0 := by
  refine kx_starti (by decide) rfl (Nat.le_of_ble_eq_true rfl) ?_
  intro p e s m below meth c A ls hx hb hr hml hts hown hlocks hin hP hK hN hD hA hS hl
  have hl : lv_has ls 5 [(0, .ref h), (1, .int (nI go)), (2, .int (nI ow))] := hl
  have hown : s.vm.findClass rr_Se = some m.cls := hown
  have lk0 := hts _ (kx_m kw_295)
  have hin7 : ∀ w ∈ u_ws rr_Se tt_Se 17, w ∈ ww_Se_nearestTo := fun w h => kx_m (kf_Se w h)
  obtain ⟨H, hH⟩ : ∃ H, H = s.heap := ⟨_, rfl⟩
  obtain ⟨locs, hlocs⟩ : ∃ z : List Loc, z = [] := ⟨_, rfl⟩
  have hP : va_P D vwCl [(h, .inr (7, [.ref g, .ref t, .ref k, .ref f, .ref v1, .ref v2, .ref v3, .ref v4, .int (nI ps), .int (nI ly), .int op, .int (nI pl), .int (nI wl), .int (nI wc), .ref v5, .ref v6, .ref v7])), (v5, .inl (cI, le, .inl ec))] H := by rw [hH]; exact hP
  have hS : va_S A s.heap H locs := by rw [hH, hlocs]; exact hS
  refine kx_gen hH hlocs ?_
  clear hH hlocs
  refine kx_nameQ (fun Q hQ => ?_)
  refine lv_iload_n hx hb dd_Se_nearestTo_0 rfl (lv_at hl 1 rfl) ?_
  refine lv_iload_n hx hb dd_Se_nearestTo_1 rfl (lv_at hl 2 rfl) ?_
  refine lv_isub hx hb dd_Se_nearestTo_2 ?_
  refine va_mabs hx hb (by rw [hml]; exact hl.1.symm) hown (hts _ (kx_m kw_733)) (hts _ (kx_m kw_734)) (hts _ (kx_m kw_54)) (hts _ (kx_m kw_735)) (Nat.le_of_ble_eq_true rfl) (Nat.le_of_ble_eq_true rfl) (Nat.zero_le _) (Nat.zero_le _) dd_Se_nearestTo_3 ?_
  refine kx_toN (n := go - ow + (ow - go)) (kn_abs (by omega) (by omega)) ?_
  refine lv_istore_n (lv' := [(3, .int (nI (go - ow + (ow - go)))), (0, .ref h), (1, .int (nI go)), (2, .int (nI ow))]) hx hb dd_Se_nearestTo_6 rfl hl (by decide) rfl (fun ls hl => ?_)
  have lp7 : ∀ (N9_7 : Nat) (aw : Nat), (aw) < N9_7 → (aw ≤ go - ow + (ow - go)) → (ow < go → ∀ j, ow + aw < j → j ≤ go → ec j = (-1)) → (go < ow → ∀ j, go ≤ j → j < ow - aw → ec j = (-1)) → ∀ (H : Heap) (locs : List Loc), va_P D vwCl [(h, .inr (7, [.ref g, .ref t, .ref k, .ref f, .ref v1, .ref v2, .ref v3, .ref v4, .int (nI ps), .int (nI ly), .int op, .int (nI pl), .int (nI wl), .int (nI wc), .ref v5, .ref v6, .ref v7])), (v5, .inl (cI, le, .inl ec))] H → va_D A [(h, .inr (7, [.ref g, .ref t, .ref k, .ref f, .ref v1, .ref v2, .ref v3, .ref v4, .int (nI ps), .int (nI ly), .int op, .int (nI pl), .int (nI wl), .int (nI wc), .ref v5, .ref v6, .ref v7])), (v5, .inl (cI, le, .inl ec))] → va_S A s.heap H locs → ∀ (ls : Array Slot), lv_has ls 5 [(0, .ref h), (1, .int (nI go)), (2, .int (nI ow)), (3, .int (nI aw))] → W p l e (headSpec ww_Se_nearestTo { frames := 1, cells := 0, slots := 0, locals := 21 }).room s m ([.ref h, .int (nI go), .int (nI ow)] : List Value).toArray below meth c H locs 0 0 Q (F0 m 7 ls []) := by
    clear hP hD hS hl
    intro N9_7
    induction N9_7 with
    | zero => intro _ h9; exact absurd h9 (Nat.not_lt_zero _)
    | succ N9_7 ih_7 =>
      intro aw hμ_7 haw hup hdn H locs hP hD hS ls hl
      refine lv_iload_n hx hb dd_Se_nearestTo_7 rfl (lv_at hl 3 rfl) ?_
      refine lv_if_le (tgt := 47) hx hb dd_Se_nearestTo_8 (by decide) (fun c8 => ?_) (fun c8 => ?_)
      · skip
        have c8 : aw ≤ 0 := (kn_le0 (by omega)).mp c8
        refine lv_iload_n hx hb dd_Se_nearestTo_47 rfl (lv_at hl 2 rfl) ?_
        rw [hQ]
        exact kx_iret hx hb hr hlocks hK hN hS dd_Se_nearestTo_48 ow hP hD (⟨rfl, fun _ => rfl, fun h => ⟨Nat.le_refl _, by omega, fun j h1 h2 => hup h j (by omega) h2⟩, fun h => ⟨by omega, Nat.le_refl _, fun j h1 h2 => hdn h j h1 (by omega)⟩, fun h => absurd rfl h⟩)
      · skip
        have c8 : ¬ (aw ≤ 0) := fun h => c8 ((kn_le0 (by omega)).mpr h)
        refine lv_iload_n hx hb dd_Se_nearestTo_11 rfl (lv_at hl 1 rfl) ?_
        refine lv_iload_n hx hb dd_Se_nearestTo_12 rfl (lv_at hl 2 rfl) ?_
        refine lv_icmp_le (tgt := 22) hx hb dd_Se_nearestTo_13 (by decide) (fun c13 => ?_) (fun c13 => ?_)
        · skip
          have c13 : go ≤ ow := (nI_leI (by omega) (by omega)).mp c13
          refine lv_iload_n hx hb dd_Se_nearestTo_22 rfl (lv_at hl 2 rfl) ?_
          refine lv_iload_n hx hb dd_Se_nearestTo_23 rfl (lv_at hl 3 rfl) ?_
          refine kx_isub hx hb dd_Se_nearestTo_24 (by omega) ?_
          refine lv_istore (lv' := [(4, .int (nI (ow - aw))), (0, .ref h), (1, .int (nI go)), (2, .int (nI ow)), (3, .int (nI aw))]) hx hb dd_Se_nearestTo_25 hl (by decide) rfl (fun ls hl => ?_)
          refine lv_aload_n hx hb dd_Se_nearestTo_27 rfl (lv_at hl 1 rfl) ?_
          refine va_get (D := D) (ci := 7) (v := .ref v5) (C := rr_Se) (T := tt_Se) (N := 17) hx hb hts hin7 hown hK hP 0 kg_2_0 rfl 14 (by decide) lk0 (fun _ h9 => h9) rfl dd_Se_nearestTo_28 ?_
          refine lv_iload hx hb dd_Se_nearestTo_31 (lv_at hl 0 rfl) ?_
          refine kx_iald (q0 := 1) (t0 := 0) hx hb dd_Se_nearestTo_33 hK hP kg_2_1 rfl (by omega) (by omega) ?_
          refine lv_iconst (v := (-1)) hx hb dd_Se_nearestTo_34 (by decide) ?_
          refine lv_icmp_eq (tgt := 41) hx hb dd_Se_nearestTo_35 (by decide) (fun c35 => ?_) (fun c35 => ?_)
          · skip
            refine lv_iinc (v := nI (aw - 1)) (lv' := [(3, .int (nI (aw - 1))), (4, .int (nI (ow - aw))), (0, .ref h), (1, .int (nI go)), (2, .int (nI ow))]) hx hb dd_Se_nearestTo_41 hl (k := 4) rfl (sb_m1 (by omega)) (by decide) rfl (fun ls hl => ?_)
            refine lv_goto (tgt := 7) hx hb dd_Se_nearestTo_44 (by decide) ?_
            exact ih_7 (aw - 1) (by omega) (by omega) (fun h j h1 h2 => (show j = ow + aw ∨ ow + aw < j by omega).elim (fun q => by rw [q]; first | exact c35 | omega) (fun q => hup h j q h2)) (fun h j h1 h2 => (show j = ow - aw ∨ j < ow - aw by omega).elim (fun q => by rw [q]; first | exact c35 | omega) (fun q => hdn h j h1 q)) H locs hP hD hS ls (lv_sub hl [2, 3, 4, 0] rfl)
          · skip
            refine lv_iload hx hb dd_Se_nearestTo_38 (lv_at hl 0 rfl) ?_
            rw [hQ]
            exact kx_iret hx hb hr hlocks hK hN hS dd_Se_nearestTo_40 (ow - aw) hP hD (⟨rfl, fun h => absurd h (by omega), fun h => ⟨by omega, by omega, fun j h1 h2 => hup h j (by omega) h2⟩, fun h => ⟨by omega, by omega, fun j h1 h2 => hdn h j h1 (by omega)⟩, fun _ => c35⟩)
        · skip
          have c13 : ¬ (go ≤ ow) := fun h => c13 ((nI_leI (by omega) (by omega)).mpr h)
          refine lv_iload_n hx hb dd_Se_nearestTo_16 rfl (lv_at hl 2 rfl) ?_
          refine lv_iload_n hx hb dd_Se_nearestTo_17 rfl (lv_at hl 3 rfl) ?_
          refine kx_iadd hx hb dd_Se_nearestTo_18 ?_
          refine lv_goto (tgt := 25) hx hb dd_Se_nearestTo_19 (by decide) ?_
          refine lv_istore (lv' := [(4, .int (nI (ow + aw))), (0, .ref h), (1, .int (nI go)), (2, .int (nI ow)), (3, .int (nI aw))]) hx hb dd_Se_nearestTo_25 hl (by decide) rfl (fun ls hl => ?_)
          refine lv_aload_n hx hb dd_Se_nearestTo_27 rfl (lv_at hl 1 rfl) ?_
          refine va_get (D := D) (ci := 7) (v := .ref v5) (C := rr_Se) (T := tt_Se) (N := 17) hx hb hts hin7 hown hK hP 0 kg_2_0 rfl 14 (by decide) lk0 (fun _ h9 => h9) rfl dd_Se_nearestTo_28 ?_
          refine lv_iload hx hb dd_Se_nearestTo_31 (lv_at hl 0 rfl) ?_
          refine kx_iald (q0 := 1) (t0 := 0) hx hb dd_Se_nearestTo_33 hK hP kg_2_1 rfl (by omega) (by omega) ?_
          refine lv_iconst (v := (-1)) hx hb dd_Se_nearestTo_34 (by decide) ?_
          refine lv_icmp_eq (tgt := 41) hx hb dd_Se_nearestTo_35 (by decide) (fun c35 => ?_) (fun c35 => ?_)
          · skip
            refine lv_iinc (v := nI (aw - 1)) (lv' := [(3, .int (nI (aw - 1))), (4, .int (nI (ow + aw))), (0, .ref h), (1, .int (nI go)), (2, .int (nI ow))]) hx hb dd_Se_nearestTo_41 hl (k := 4) rfl (sb_m1 (by omega)) (by decide) rfl (fun ls hl => ?_)
            refine lv_goto (tgt := 7) hx hb dd_Se_nearestTo_44 (by decide) ?_
            exact ih_7 (aw - 1) (by omega) (by omega) (fun h j h1 h2 => (show j = ow + aw ∨ ow + aw < j by omega).elim (fun q => by rw [q]; first | exact c35 | omega) (fun q => hup h j q h2)) (fun h j h1 h2 => (show j = ow - aw ∨ j < ow - aw by omega).elim (fun q => by rw [q]; first | exact c35 | omega) (fun q => hdn h j h1 q)) H locs hP hD hS ls (lv_sub hl [2, 3, 4, 0] rfl)
          · skip
            refine lv_iload hx hb dd_Se_nearestTo_38 (lv_at hl 0 rfl) ?_
            rw [hQ]
            exact kx_iret hx hb hr hlocks hK hN hS dd_Se_nearestTo_40 (ow + aw) hP hD (⟨rfl, fun h => absurd h (by omega), fun h => ⟨by omega, by omega, fun j h1 h2 => hup h j (by omega) h2⟩, fun h => ⟨by omega, by omega, fun j h1 h2 => hdn h j h1 (by omega)⟩, fun _ => c35⟩)
  exact lp7 ((go - ow + (ow - go)) + 1) (go - ow + (ow - go)) (Nat.lt_succ_self _) (by omega) (fun h j h1 h2 => absurd h1 (by omega)) (fun h j h1 h2 => absurd h1 (by omega)) H locs hP hD hS ls (lv_sub hl [1, 2, 3, 0] rfl)

theorem dd_Se_traceBack_0 : decode bb_Se_traceBack 0 = .ok (.aload_n 0, 1) := by decide +kernel
theorem dd_Se_traceBack_1 : decode bb_Se_traceBack 1 = .ok (.getfield 106, 3) := by decide +kernel
theorem dd_Se_traceBack_4 : decode bb_Se_traceBack 4 = .ok (.istore_n 1, 1) := by decide +kernel
theorem dd_Se_traceBack_5 : decode bb_Se_traceBack 5 = .ok (.aload_n 0, 1) := by decide +kernel
theorem dd_Se_traceBack_6 : decode bb_Se_traceBack 6 = .ok (.getfield 22, 3) := by decide +kernel
theorem dd_Se_traceBack_9 : decode bb_Se_traceBack 9 = .ok (.getfield 69, 3) := by decide +kernel
theorem dd_Se_traceBack_12 : decode bb_Se_traceBack 12 = .ok (.iconst 4, 1) := by decide +kernel
theorem dd_Se_traceBack_13 : decode bb_Se_traceBack 13 = .ok (.imul, 1) := by decide +kernel
theorem dd_Se_traceBack_14 : decode bb_Se_traceBack 14 = .ok (.aload_n 0, 1) := by decide +kernel
theorem dd_Se_traceBack_15 : decode bb_Se_traceBack 15 = .ok (.getfield 51, 3) := by decide +kernel
theorem dd_Se_traceBack_18 : decode bb_Se_traceBack 18 = .ok (.iload_n 1, 1) := by decide +kernel
theorem dd_Se_traceBack_19 : decode bb_Se_traceBack 19 = .ok (.iaload, 1) := by decide +kernel
theorem dd_Se_traceBack_20 : decode bb_Se_traceBack 20 = .ok (.iadd, 1) := by decide +kernel
theorem dd_Se_traceBack_21 : decode bb_Se_traceBack 21 = .ok (.istore_n 2, 1) := by decide +kernel
theorem dd_Se_traceBack_22 : decode bb_Se_traceBack 22 = .ok (.aload_n 0, 1) := by decide +kernel
theorem dd_Se_traceBack_23 : decode bb_Se_traceBack 23 = .ok (.getfield 94, 3) := by decide +kernel
theorem dd_Se_traceBack_26 : decode bb_Se_traceBack 26 = .ok (.istore_n 3, 1) := by decide +kernel
theorem dd_Se_traceBack_27 : decode bb_Se_traceBack 27 = .ok (.iload_n 3, 1) := by decide +kernel
theorem dd_Se_traceBack_28 : decode bb_Se_traceBack 28 = .ok (.iconst 1, 1) := by decide +kernel
theorem dd_Se_traceBack_29 : decode bb_Se_traceBack 29 = .ok (.if_icmp .lt (54), 3) := by decide +kernel
theorem dd_Se_traceBack_32 : decode bb_Se_traceBack 32 = .ok (.iload_n 1, 1) := by decide +kernel
theorem dd_Se_traceBack_33 : decode bb_Se_traceBack 33 = .ok (.iconst 1, 1) := by decide +kernel
theorem dd_Se_traceBack_34 : decode bb_Se_traceBack 34 = .ok (.if_icmp .lt (49), 3) := by decide +kernel
theorem dd_Se_traceBack_37 : decode bb_Se_traceBack 37 = .ok (.aload_n 0, 1) := by decide +kernel
theorem dd_Se_traceBack_38 : decode bb_Se_traceBack 38 = .ok (.getfield 55, 3) := by decide +kernel
theorem dd_Se_traceBack_41 : decode bb_Se_traceBack 41 = .ok (.iload_n 3, 1) := by decide +kernel
theorem dd_Se_traceBack_42 : decode bb_Se_traceBack 42 = .ok (.iload_n 2, 1) := by decide +kernel
theorem dd_Se_traceBack_43 : decode bb_Se_traceBack 43 = .ok (.iconst 4, 1) := by decide +kernel
theorem dd_Se_traceBack_44 : decode bb_Se_traceBack 44 = .ok (.idiv, 1) := by decide +kernel
theorem dd_Se_traceBack_45 : decode bb_Se_traceBack 45 = .ok (.iastore, 1) := by decide +kernel
theorem dd_Se_traceBack_46 : decode bb_Se_traceBack 46 = .ok (.aload_n 0, 1) := by decide +kernel
theorem dd_Se_traceBack_47 : decode bb_Se_traceBack 47 = .ok (.getfield 58, 3) := by decide +kernel
theorem dd_Se_traceBack_50 : decode bb_Se_traceBack 50 = .ok (.iload_n 1, 1) := by decide +kernel
theorem dd_Se_traceBack_51 : decode bb_Se_traceBack 51 = .ok (.iconst 1, 1) := by decide +kernel
theorem dd_Se_traceBack_52 : decode bb_Se_traceBack 52 = .ok (.isub, 1) := by decide +kernel
theorem dd_Se_traceBack_53 : decode bb_Se_traceBack 53 = .ok (.aload_n 0, 1) := by decide +kernel
theorem dd_Se_traceBack_54 : decode bb_Se_traceBack 54 = .ok (.getfield 128, 3) := by decide +kernel
theorem dd_Se_traceBack_57 : decode bb_Se_traceBack 57 = .ok (.imul, 1) := by decide +kernel
theorem dd_Se_traceBack_58 : decode bb_Se_traceBack 58 = .ok (.iload_n 2, 1) := by decide +kernel
theorem dd_Se_traceBack_59 : decode bb_Se_traceBack 59 = .ok (.iadd, 1) := by decide +kernel
theorem dd_Se_traceBack_60 : decode bb_Se_traceBack 60 = .ok (.iaload, 1) := by decide +kernel
theorem dd_Se_traceBack_61 : decode bb_Se_traceBack 61 = .ok (.istore 4, 2) := by decide +kernel
theorem dd_Se_traceBack_63 : decode bb_Se_traceBack 63 = .ok (.iload 4, 2) := by decide +kernel
theorem dd_Se_traceBack_65 : decode bb_Se_traceBack 65 = .ok (.iconst 2, 1) := by decide +kernel
theorem dd_Se_traceBack_66 : decode bb_Se_traceBack 66 = .ok (.idiv, 1) := by decide +kernel
theorem dd_Se_traceBack_67 : decode bb_Se_traceBack 67 = .ok (.istore_n 2, 1) := by decide +kernel
theorem dd_Se_traceBack_68 : decode bb_Se_traceBack 68 = .ok (.iload_n 1, 1) := by decide +kernel
theorem dd_Se_traceBack_69 : decode bb_Se_traceBack 69 = .ok (.iconst 1, 1) := by decide +kernel
theorem dd_Se_traceBack_70 : decode bb_Se_traceBack 70 = .ok (.iload 4, 2) := by decide +kernel
theorem dd_Se_traceBack_72 : decode bb_Se_traceBack 72 = .ok (.iconst 2, 1) := by decide +kernel
theorem dd_Se_traceBack_73 : decode bb_Se_traceBack 73 = .ok (.irem, 1) := by decide +kernel
theorem dd_Se_traceBack_74 : decode bb_Se_traceBack 74 = .ok (.isub, 1) := by decide +kernel
theorem dd_Se_traceBack_75 : decode bb_Se_traceBack 75 = .ok (.isub, 1) := by decide +kernel
theorem dd_Se_traceBack_76 : decode bb_Se_traceBack 76 = .ok (.istore_n 1, 1) := by decide +kernel
theorem dd_Se_traceBack_77 : decode bb_Se_traceBack 77 = .ok (.iinc 3 (-1), 3) := by decide +kernel
theorem dd_Se_traceBack_80 : decode bb_Se_traceBack 80 = .ok (.goto (-53), 3) := by decide +kernel
theorem dd_Se_traceBack_83 : decode bb_Se_traceBack 83 = .ok (.aload_n 0, 1) := by decide +kernel
theorem dd_Se_traceBack_84 : decode bb_Se_traceBack 84 = .ok (.getfield 55, 3) := by decide +kernel
theorem dd_Se_traceBack_87 : decode bb_Se_traceBack 87 = .ok (.iconst 0, 1) := by decide +kernel
theorem dd_Se_traceBack_88 : decode bb_Se_traceBack 88 = .ok (.iconst 0, 1) := by decide +kernel
theorem dd_Se_traceBack_89 : decode bb_Se_traceBack 89 = .ok (.iastore, 1) := by decide +kernel
theorem dd_Se_traceBack_90 : decode bb_Se_traceBack 90 = .ok (.return_, 1) := by decide +kernel

set_option maxHeartbeats 4000000 in
set_option maxRecDepth 100000 in
theorem ct_Se_traceBack (l : Launch) (D : va_G) (cI cJ cZ : ClassId) (sz : Nat) (h : Nat) (t : Nat) (v1 : Nat) (v2 : Nat) (v3 : Nat) (v4 : Nat) (v5 : Nat) (v6 : Nat) (v7 : Nat) (ps : Nat) (ly : Nat) (op : Int32) (pl : Nat) (wl : Nat) (wc : Nat) (g : Nat) (k : Nat) (f : Nat) (bn : Nat) (lf : Nat) (j1 : Nat) (j2 : Nat) (j3 : Nat) (j4 : Nat) (j5 : Nat) (j6 : Nat) (j7 : Nat) (le : Nat) (ec : Nat → Int32) (lt : Nat) (tr : Nat → Int32) (lw : Nat) (bk : Nat → Int32) (QX : Nat → Nat → Nat → Option (Nat × qx_V)) (zc : Nat) (hwl : wl < le) (hle : le < 2 ^ 20) (hwc : wc < lt) (hlt : lt < 2 ^ 20) (hzc : zc < 4) (hec : ec wl = nI zc) (hbn : bn ≤ 400) (hok0 : kt_ok bk pl QX wc wl bn zc) (hlw : wl * pl ≤ lw) (hlw2 : lw < 2 ^ 30) : kx_Mv l yy_Se_traceBack ww_Se_traceBack ({ frames := 0, cells := 0, slots := 0, locals := 0 }) D vwCl (kx_ty cI cJ cZ) [.ref h] [(h, .inr (7, [.ref g, .ref t, .ref k, .ref f, .ref v1, .ref v2, .ref v3, .ref v4, .int (nI ps), .int (nI ly), .int op, .int (nI pl), .int (nI wl), .int (nI wc), .ref v5, .ref v6, .ref v7])), (k, .inr (2, [.int (nI bn), .int (nI lf), .ref j1, .ref j2, .ref j3, .ref j4, .ref j5, .ref j6, .ref j7])), (v5, .inl (cI, le, .inl ec)), (v6, .inl (cI, lt, .inl tr)), (v7, .inl (cI, lw, .inl bk))] sz (fun (u : (Nat → Int32)) => (∀ k9, 1 ≤ k9 → k9 ≤ wc → u k9 = nI (qt_b QX wc bn zc k9)) ∧ u 0 = nI 0) (fun (u : (Nat → Int32)) => [(h, .inr (7, [.ref g, .ref t, .ref k, .ref f, .ref v1, .ref v2, .ref v3, .ref v4, .int (nI ps), .int (nI ly), .int op, .int (nI pl), .int (nI wl), .int (nI wc), .ref v5, .ref v6, .ref v7])), (k, .inr (2, [.int (nI bn), .int (nI lf), .ref j1, .ref j2, .ref j3, .ref j4, .ref j5, .ref j6, .ref j7])), (v5, .inl (cI, le, .inl ec)), (v6, .inl (cI, lt, .inl u)), (v7, .inl (cI, lw, .inl bk))]) 0 0 := by
  refine kx_startv (by decide) rfl (Nat.le_of_ble_eq_true rfl) ?_
  intro p e s m below meth c A ls hx hb hr hml hts hown hlocks hin hP hK hN hD hA hS hl
  have hl : lv_has ls 5 [(0, .ref h)] := hl
  have hown : s.vm.findClass rr_Se = some m.cls := hown
  have lk0 := hts _ (kx_m kw_293)
  have hin7 : ∀ w ∈ u_ws rr_Se tt_Se 17, w ∈ ww_Se_traceBack := fun w h => kx_m (kf_Se w h)
  have lk2 := hts _ (kx_m kw_282)
  have lk3 := hts _ (kx_m kw_188)
  have hin2 : ∀ w ∈ u_ws rr_Bk tt_Bk 9, w ∈ ww_Se_traceBack := fun w h => kx_m (kf_Bk w h)
  have lk5 := hts _ (kx_m kw_295)
  have lk6 := hts _ (kx_m kw_294)
  have lk7 := hts _ (kx_m kw_296)
  have lk8 := hts _ (kx_m kw_297)
  have lk9 := hts _ (kx_m kw_292)
  obtain ⟨H, hH⟩ : ∃ H, H = s.heap := ⟨_, rfl⟩
  obtain ⟨locs, hlocs⟩ : ∃ z : List Loc, z = [] := ⟨_, rfl⟩
  have hP : va_P D vwCl [(h, .inr (7, [.ref g, .ref t, .ref k, .ref f, .ref v1, .ref v2, .ref v3, .ref v4, .int (nI ps), .int (nI ly), .int op, .int (nI pl), .int (nI wl), .int (nI wc), .ref v5, .ref v6, .ref v7])), (k, .inr (2, [.int (nI bn), .int (nI lf), .ref j1, .ref j2, .ref j3, .ref j4, .ref j5, .ref j6, .ref j7])), (v5, .inl (cI, le, .inl ec)), (v6, .inl (cI, lt, .inl tr)), (v7, .inl (cI, lw, .inl bk))] H := by rw [hH]; exact hP
  have hS : va_S A s.heap H locs := by rw [hH, hlocs]; exact hS
  refine kx_gen hH hlocs ?_
  clear hH hlocs
  refine kx_nameQ (fun Q hQ => ?_)
  refine lv_aload_n hx hb dd_Se_traceBack_0 rfl (lv_at hl 0 rfl) ?_
  refine va_get (D := D) (ci := 7) (v := .int (nI wl)) (C := rr_Se) (T := tt_Se) (N := 17) hx hb hts hin7 hown hK hP 0 kg_5_0 rfl 12 (by decide) lk0 (fun _ h9 => h9) rfl dd_Se_traceBack_1 ?_
  refine lv_istore_n (lv' := [(1, .int (nI wl)), (0, .ref h)]) hx hb dd_Se_traceBack_4 rfl hl (by decide) rfl (fun ls hl => ?_)
  refine lv_aload_n hx hb dd_Se_traceBack_5 rfl (lv_at hl 1 rfl) ?_
  refine va_get (D := D) (ci := 7) (v := .ref k) (C := rr_Se) (T := tt_Se) (N := 17) hx hb hts hin7 hown hK hP 0 kg_5_0 rfl 2 (by decide) lk2 (fun _ h9 => h9) rfl dd_Se_traceBack_6 ?_
  refine va_get (D := D) (ci := 2) (v := .int (nI bn)) (C := rr_Bk) (T := tt_Bk) (N := 9) hx hb hts hin2 hown hK hP 1 kg_5_1 rfl 0 (by decide) lk3 (fun _ h9 => h9) rfl dd_Se_traceBack_9 ?_
  refine lv_iconst (v := nI 4) hx hb dd_Se_traceBack_12 (by decide) ?_
  refine kx_imul hx hb dd_Se_traceBack_13 ?_
  refine lv_aload_n hx hb dd_Se_traceBack_14 rfl (lv_at hl 1 rfl) ?_
  refine va_get (D := D) (ci := 7) (v := .ref v5) (C := rr_Se) (T := tt_Se) (N := 17) hx hb hts hin7 hown hK hP 0 kg_5_0 rfl 14 (by decide) lk5 (fun _ h9 => h9) rfl dd_Se_traceBack_15 ?_
  refine lv_iload_n hx hb dd_Se_traceBack_18 rfl (lv_at hl 0 rfl) ?_
  refine kx_iald (q0 := 2) (t0 := 0) hx hb dd_Se_traceBack_19 hK hP kg_5_2 rfl (by omega) (by omega) ?_
  refine kx_toN (n := zc) (hec) ?_
  refine kx_iadd hx hb dd_Se_traceBack_20 ?_
  refine lv_istore_n (lv' := [(2, .int (nI ((bn * 4) + zc))), (1, .int (nI wl)), (0, .ref h)]) hx hb dd_Se_traceBack_21 rfl hl (by decide) rfl (fun ls hl => ?_)
  refine lv_aload_n hx hb dd_Se_traceBack_22 rfl (lv_at hl 2 rfl) ?_
  refine va_get (D := D) (ci := 7) (v := .int (nI wc)) (C := rr_Se) (T := tt_Se) (N := 17) hx hb hts hin7 hown hK hP 0 kg_5_0 rfl 13 (by decide) lk6 (fun _ h9 => h9) rfl dd_Se_traceBack_23 ?_
  refine lv_istore_n (lv' := [(3, .int (nI wc)), (2, .int (nI ((bn * 4) + zc))), (1, .int (nI wl)), (0, .ref h)]) hx hb dd_Se_traceBack_26 rfl hl (by decide) rfl (fun ls hl => ?_)
  have lp27 : ∀ (N9_27 : Nat) (kx : Nat) (lx : Nat) (b9 : Nat) (z9 : Nat) (t1 : Nat → Int32), (kx) < N9_27 → (kx ≤ wc) → (lx ≤ wl) → (z9 < 4) → (b9 = qt_b QX wc bn zc kx) → (z9 = qt_z QX wc bn zc kx) → (kt_ok bk pl QX kx lx b9 z9) → (b9 ≤ bn) → (∀ j, kx < j → j ≤ wc → t1 j = nI (qt_b QX wc bn zc j)) → ∀ (H : Heap) (locs : List Loc), va_P D vwCl [(h, .inr (7, [.ref g, .ref t, .ref k, .ref f, .ref v1, .ref v2, .ref v3, .ref v4, .int (nI ps), .int (nI ly), .int op, .int (nI pl), .int (nI wl), .int (nI wc), .ref v5, .ref v6, .ref v7])), (k, .inr (2, [.int (nI bn), .int (nI lf), .ref j1, .ref j2, .ref j3, .ref j4, .ref j5, .ref j6, .ref j7])), (v5, .inl (cI, le, .inl ec)), (v6, .inl (cI, lt, .inl t1)), (v7, .inl (cI, lw, .inl bk))] H → va_D A [(h, .inr (7, [.ref g, .ref t, .ref k, .ref f, .ref v1, .ref v2, .ref v3, .ref v4, .int (nI ps), .int (nI ly), .int op, .int (nI pl), .int (nI wl), .int (nI wc), .ref v5, .ref v6, .ref v7])), (k, .inr (2, [.int (nI bn), .int (nI lf), .ref j1, .ref j2, .ref j3, .ref j4, .ref j5, .ref j6, .ref j7])), (v5, .inl (cI, le, .inl ec)), (v6, .inl (cI, lt, .inl t1)), (v7, .inl (cI, lw, .inl bk))] → va_S A s.heap H locs → ∀ (ls : Array Slot), lv_has ls 5 [(0, .ref h), (1, .int (nI lx)), (2, .int (nI (b9 * 4 + z9))), (3, .int (nI kx))] → W p l e (headSpec ww_Se_traceBack { frames := 0, cells := 0, slots := 0, locals := 0 }).room s m ([.ref h] : List Value).toArray below meth c H locs 0 0 Q (F0 m 27 ls []) := by
    clear hP hD hS hl
    intro N9_27
    induction N9_27 with
    | zero => intro _ _ _ _ _ h9; exact absurd h9 (Nat.not_lt_zero _)
    | succ N9_27 ih_27 =>
      intro kx lx b9 z9 t1 hμ_27 hkx hlx hz9 hb9 hz8 hok hble htr H locs hP hD hS ls hl
      refine lv_iload_n hx hb dd_Se_traceBack_27 rfl (lv_at hl 3 rfl) ?_
      refine lv_iconst (v := nI 1) hx hb dd_Se_traceBack_28 (by decide) ?_
      refine lv_icmp_lt (tgt := 83) hx hb dd_Se_traceBack_29 (by decide) (fun c29 => ?_) (fun c29 => ?_)
      · skip
        have c29 : kx < 1 := (nI_ltI (by omega) (by omega)).mp c29
        refine lv_aload_n hx hb dd_Se_traceBack_83 rfl (lv_at hl 0 rfl) ?_
        refine va_get (D := D) (ci := 7) (v := .ref v6) (C := rr_Se) (T := tt_Se) (N := 17) hx hb hts hin7 hown hK hP 0 kg_5_0 rfl 15 (by decide) lk7 (fun _ h9 => h9) rfl dd_Se_traceBack_84 ?_
        refine lv_iconst (v := nI 0) hx hb dd_Se_traceBack_87 (by decide) ?_
        refine lv_iconst (v := nI 0) hx hb dd_Se_traceBack_88 (by decide) ?_
        refine kx_iast (q0 := 3) (t0 := 0) hx hb dd_Se_traceBack_89 hK hP hD hS kg_5_3 rfl (by omega) (by omega) (fun H locs hP hD hS => ?_)
        have hP : va_P D vwCl [(h, .inr (7, [.ref g, .ref t, .ref k, .ref f, .ref v1, .ref v2, .ref v3, .ref v4, .int (nI ps), .int (nI ly), .int op, .int (nI pl), .int (nI wl), .int (nI wc), .ref v5, .ref v6, .ref v7])), (k, .inr (2, [.int (nI bn), .int (nI lf), .ref j1, .ref j2, .ref j3, .ref j4, .ref j5, .ref j6, .ref j7])), (v5, .inl (cI, le, .inl ec)), (v6, .inl (cI, lt, .inl (upd t1 0 (nI 0)))), (v7, .inl (cI, lw, .inl bk))] H := kx_cP kz_5_3 hP
        have hD : va_D A [(h, .inr (7, [.ref g, .ref t, .ref k, .ref f, .ref v1, .ref v2, .ref v3, .ref v4, .int (nI ps), .int (nI ly), .int op, .int (nI pl), .int (nI wl), .int (nI wc), .ref v5, .ref v6, .ref v7])), (k, .inr (2, [.int (nI bn), .int (nI lf), .ref j1, .ref j2, .ref j3, .ref j4, .ref j5, .ref j6, .ref j7])), (v5, .inl (cI, le, .inl ec)), (v6, .inl (cI, lt, .inl (upd t1 0 (nI 0)))), (v7, .inl (cI, lw, .inl bk))] := kx_cD kz_5_3 hD
        rw [hQ]
        exact kx_vret hx hb hr hlocks hK hN hS dd_Se_traceBack_90 (upd t1 0 (nI 0)) hP hD (⟨fun k9 h1 h2 => by unfold upd; rw [if_neg (by omega)]; exact htr k9 (by omega) h2, rfl⟩)
      · skip
        have c29 : ¬ (kx < 1) := fun h => c29 ((nI_ltI (by omega) (by omega)).mpr h)
        obtain ⟨k0, hk0⟩ : ∃ k0, kx = k0 + 1 := ⟨kx - 1, by omega⟩
        have hok9 : kt_ok bk pl QX (k0 + 1) lx b9 z9 := by rw [← hk0]; exact hok
        obtain ⟨hL1, hplc, p9, v9, s9, hX9, hs9, hp4, hbk9, hnx⟩ := hok9
        have hk1 : k0 = kx - 1 := by omega
        have hq := qt_s (X := QX) (N := wc) (b := bn) (z := zc) (k := kx) (p := p9) (v := v9) (by omega) hkx (by rw [← hb9, ← hz8, hk0]; exact hX9)
        have hp16 : p9 < 1700 := by omega
        rw [hk1] at hnx
        have hmul : lx * pl ≤ wl * pl := Nat.mul_le_mul_right _ hlx
        have hmul2 : (lx - 1) * pl + pl = lx * pl := by rw [← Nat.succ_mul]; congr 1; omega
        refine lv_iload_n hx hb dd_Se_traceBack_32 rfl (lv_at hl 1 rfl) ?_
        refine lv_iconst (v := nI 1) hx hb dd_Se_traceBack_33 (by decide) ?_
        refine lv_icmp_lt (tgt := 83) hx hb dd_Se_traceBack_34 (by decide) (fun c34 => ?_) (fun c34 => ?_)
        · skip
          have c34 : lx < 1 := (nI_ltI (by omega) (by omega)).mp c34
          exact absurd hL1 (by omega)
        · skip
          have c34 : ¬ (lx < 1) := fun h => c34 ((nI_ltI (by omega) (by omega)).mpr h)
          refine lv_aload_n hx hb dd_Se_traceBack_37 rfl (lv_at hl 0 rfl) ?_
          refine va_get (D := D) (ci := 7) (v := .ref v6) (C := rr_Se) (T := tt_Se) (N := 17) hx hb hts hin7 hown hK hP 0 kg_5_0 rfl 15 (by decide) lk7 (fun _ h9 => h9) rfl dd_Se_traceBack_38 ?_
          refine lv_iload_n hx hb dd_Se_traceBack_41 rfl (lv_at hl 3 rfl) ?_
          refine lv_iload_n hx hb dd_Se_traceBack_42 rfl (lv_at hl 2 rfl) ?_
          refine lv_iconst (v := nI 4) hx hb dd_Se_traceBack_43 (by decide) ?_
          refine lv_idiv hx hb dd_Se_traceBack_44 (by first | assumption | decide) ?_
          refine kx_toN (n := b9) (by rw [pk_div (by omega) (by decide) (by decide)]; congr 1; omega) ?_
          refine kx_iast (q0 := 3) (t0 := 0) hx hb dd_Se_traceBack_45 hK hP hD hS kg_5_3 rfl (by omega) (by omega) (fun H locs hP hD hS => ?_)
          have hP : va_P D vwCl [(h, .inr (7, [.ref g, .ref t, .ref k, .ref f, .ref v1, .ref v2, .ref v3, .ref v4, .int (nI ps), .int (nI ly), .int op, .int (nI pl), .int (nI wl), .int (nI wc), .ref v5, .ref v6, .ref v7])), (k, .inr (2, [.int (nI bn), .int (nI lf), .ref j1, .ref j2, .ref j3, .ref j4, .ref j5, .ref j6, .ref j7])), (v5, .inl (cI, le, .inl ec)), (v6, .inl (cI, lt, .inl (upd t1 kx (nI b9)))), (v7, .inl (cI, lw, .inl bk))] H := kx_cP kz_5_3 hP
          have hD : va_D A [(h, .inr (7, [.ref g, .ref t, .ref k, .ref f, .ref v1, .ref v2, .ref v3, .ref v4, .int (nI ps), .int (nI ly), .int op, .int (nI pl), .int (nI wl), .int (nI wc), .ref v5, .ref v6, .ref v7])), (k, .inr (2, [.int (nI bn), .int (nI lf), .ref j1, .ref j2, .ref j3, .ref j4, .ref j5, .ref j6, .ref j7])), (v5, .inl (cI, le, .inl ec)), (v6, .inl (cI, lt, .inl (upd t1 kx (nI b9)))), (v7, .inl (cI, lw, .inl bk))] := kx_cD kz_5_3 hD
          refine lv_aload_n hx hb dd_Se_traceBack_46 rfl (lv_at hl 0 rfl) ?_
          refine va_get (D := D) (ci := 7) (v := .ref v7) (C := rr_Se) (T := tt_Se) (N := 17) hx hb hts hin7 hown hK hP 0 kg_5_0 rfl 16 (by decide) lk8 (fun _ h9 => h9) rfl dd_Se_traceBack_47 ?_
          refine lv_iload_n hx hb dd_Se_traceBack_50 rfl (lv_at hl 1 rfl) ?_
          refine lv_iconst (v := nI 1) hx hb dd_Se_traceBack_51 (by decide) ?_
          refine kx_isub hx hb dd_Se_traceBack_52 (by omega) ?_
          refine lv_aload_n hx hb dd_Se_traceBack_53 rfl (lv_at hl 0 rfl) ?_
          refine va_get (D := D) (ci := 7) (v := .int (nI pl)) (C := rr_Se) (T := tt_Se) (N := 17) hx hb hts hin7 hown hK hP 0 kg_5_0 rfl 11 (by decide) lk9 (fun _ h9 => h9) rfl dd_Se_traceBack_54 ?_
          refine kx_imul hx hb dd_Se_traceBack_57 ?_
          refine lv_iload_n hx hb dd_Se_traceBack_58 rfl (lv_at hl 2 rfl) ?_
          refine kx_iadd hx hb dd_Se_traceBack_59 ?_
          refine kx_iald (q0 := 4) (t0 := 0) hx hb dd_Se_traceBack_60 hK hP kg_5_4 rfl (by omega) (by omega) ?_
          refine kx_toN (n := 2 * p9 + s9) (hbk9) ?_
          refine lv_istore (lv' := [(4, .int (nI (2 * p9 + s9))), (0, .ref h), (1, .int (nI lx)), (2, .int (nI (b9 * 4 + z9))), (3, .int (nI kx))]) hx hb dd_Se_traceBack_61 hl (by decide) rfl (fun ls hl => ?_)
          refine lv_iload hx hb dd_Se_traceBack_63 (lv_at hl 0 rfl) ?_
          refine lv_iconst (v := nI 2) hx hb dd_Se_traceBack_65 (by decide) ?_
          refine lv_idiv hx hb dd_Se_traceBack_66 (by first | assumption | decide) ?_
          refine kx_toN (n := p9 / 4 * 4 + p9 % 4) (by rw [pk_div (by omega) (by decide) (by decide)]; congr 1; omega) ?_
          refine lv_istore_n (lv' := [(2, .int (nI (p9 / 4 * 4 + p9 % 4))), (4, .int (nI (2 * p9 + s9))), (0, .ref h), (1, .int (nI lx)), (3, .int (nI kx))]) hx hb dd_Se_traceBack_67 rfl hl (by decide) rfl (fun ls hl => ?_)
          refine lv_iload_n hx hb dd_Se_traceBack_68 rfl (lv_at hl 3 rfl) ?_
          refine lv_iconst (v := nI 1) hx hb dd_Se_traceBack_69 (by decide) ?_
          refine lv_iload hx hb dd_Se_traceBack_70 (lv_at hl 1 rfl) ?_
          refine lv_iconst (v := nI 2) hx hb dd_Se_traceBack_72 (by decide) ?_
          refine lv_irem hx hb dd_Se_traceBack_73 (by first | assumption | decide) ?_
          refine kx_toN (n := s9) (by rw [pk_rem (by omega) (by decide) (by decide)]; congr 1; omega) ?_
          refine kx_isub hx hb dd_Se_traceBack_74 (by omega) ?_
          refine kx_isub hx hb dd_Se_traceBack_75 (by omega) ?_
          refine lv_istore_n (lv' := [(1, .int (nI (lx - (1 - s9)))), (2, .int (nI (p9 / 4 * 4 + p9 % 4))), (4, .int (nI (2 * p9 + s9))), (0, .ref h), (3, .int (nI kx))]) hx hb dd_Se_traceBack_76 rfl hl (by decide) rfl (fun ls hl => ?_)
          refine lv_iinc (v := nI (kx - 1)) (lv' := [(3, .int (nI (kx - 1))), (1, .int (nI (lx - (1 - s9)))), (2, .int (nI (p9 / 4 * 4 + p9 % 4))), (4, .int (nI (2 * p9 + s9))), (0, .ref h)]) hx hb dd_Se_traceBack_77 hl (k := 4) rfl (sb_m1 (by omega)) (by decide) rfl (fun ls hl => ?_)
          refine lv_goto (tgt := 27) hx hb dd_Se_traceBack_80 (by decide) ?_
          exact ih_27 (kx - 1) (lx - (1 - s9)) (p9 / 4) (p9 % 4) (upd t1 kx (nI b9)) (by omega) (by omega) (by omega) (by omega) (by rw [hq.1]) (by rw [hq.2]) (by rw [show lx - (1 - s9) = lx - 1 + s9 by omega]; exact hnx) (by omega) (fun j h1 h2 => (Decidable.em (j = kx)).elim (fun q => by unfold upd; rw [if_pos q, hb9, q]) (fun q => by unfold upd; rw [if_neg q]; exact htr j (by omega) h2)) H locs hP hD hS ls (lv_sub hl [4, 1, 2, 0] rfl)
  exact lp27 (wc + 1) wc wl bn zc tr (Nat.lt_succ_self _) (by omega) (by omega) hzc (by rw [qt_b_N]) (by rw [qt_z_N]) hok0 (by omega) (fun j h1 h2 => absurd h1 (by omega)) H locs hP hD hS ls (lv_sub hl [3, 2, 1, 0] rfl)
