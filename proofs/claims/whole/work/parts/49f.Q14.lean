/-! gathering the breaks -/
section KG
abbrev kg_cut (ik : Nat → Int32) (cn i : Nat) : Prop := i < cn ∧ ik i = nI 4
abbrev kg_inv (ik ic ia ib fl ru : Nat → Int32) (cn : Nat) (au : Int32) (i bn lf sd : Nat) (bi bo ba bb bg bl bh : Nat → Int32) : Prop := (bn = pq_c (pk_br ik ic fl cn au) i) ∧ (∀ k, k < i → pk_br ik ic fl cn au k → bi (pq_c (pk_br ik ic fl cn au) k + 1) = nI k ∧ bo (pq_c (pk_br ik ic fl cn au) k + 1) = pk_cost ik ic fl ru cn k ∧ ba (pq_c (pk_br ik ic fl cn au) k + 1) = (if kg_cut ik cn k then ia k else nI 0) ∧ bb (pq_c (pk_br ik ic fl cn au) k + 1) = (if kg_cut ik cn k then ib k else nI 0) ∧ bh (pq_c (pk_br ik ic fl cn au) k + 1) = (if kg_cut ik cn k then nI 1 else nI 0) ∧ bg (pq_c (pk_br ik ic fl cn au) k + 1) = nI (if pk_fl ik fl cn k (nI 2) then k + 1 else if qk_n ik k i = i then k else qk_n ik k i)) ∧ (bg 0 = nI 0 ∧ bb 0 = nI 0 ∧ bh 0 = nI 0) ∧ (sd ≤ bn) ∧ (∀ k, k < i → pk_br ik ic fl cn au k → (pq_c (pk_br ik ic fl cn au) k + 1 ≤ sd ↔ ¬ qk_n ik k i = i)) ∧ (lf ≤ bn ∧ (lf = 0 ∨ ¬ (-10000) < bo lf) ∧ ∀ y, lf < y → y ≤ bn → (-10000) < bo y) ∧ (∃ lo : Nat → Nat, ∀ y, 1 ≤ y → y ≤ bn → bl y = nI (lo y) ∧ lo y < y ∧ (lo y = 0 ∨ ¬ (-10000) < bo (lo y)) ∧ ∀ x, lo y < x → x < y → (-10000) < bo x)
theorem kg_inv.cnt {ik ic ia ib fl ru : Nat → Int32} {cn : Nat} {au : Int32} {i bn lf sd : Nat} {bi bo ba bb bg bl bh : Nat → Int32} (h : kg_inv ik ic ia ib fl ru cn au i bn lf sd bi bo ba bb bg bl bh) : bn = pq_c (pk_br ik ic fl cn au) i := h.1
theorem kg_inv.rows {ik ic ia ib fl ru : Nat → Int32} {cn : Nat} {au : Int32} {i bn lf sd : Nat} {bi bo ba bb bg bl bh : Nat → Int32} (h : kg_inv ik ic ia ib fl ru cn au i bn lf sd bi bo ba bb bg bl bh) : ∀ k, k < i → pk_br ik ic fl cn au k → bi (pq_c (pk_br ik ic fl cn au) k + 1) = nI k ∧ bo (pq_c (pk_br ik ic fl cn au) k + 1) = pk_cost ik ic fl ru cn k ∧ ba (pq_c (pk_br ik ic fl cn au) k + 1) = (if kg_cut ik cn k then ia k else nI 0) ∧ bb (pq_c (pk_br ik ic fl cn au) k + 1) = (if kg_cut ik cn k then ib k else nI 0) ∧ bh (pq_c (pk_br ik ic fl cn au) k + 1) = (if kg_cut ik cn k then nI 1 else nI 0) ∧ bg (pq_c (pk_br ik ic fl cn au) k + 1) = nI (if pk_fl ik fl cn k (nI 2) then k + 1 else if qk_n ik k i = i then k else qk_n ik k i) := h.2.1
theorem kg_inv.front {ik ic ia ib fl ru : Nat → Int32} {cn : Nat} {au : Int32} {i bn lf sd : Nat} {bi bo ba bb bg bl bh : Nat → Int32} (h : kg_inv ik ic ia ib fl ru cn au i bn lf sd bi bo ba bb bg bl bh) : bg 0 = nI 0 ∧ bb 0 = nI 0 ∧ bh 0 = nI 0 := h.2.2.1
theorem kg_inv.sle {ik ic ia ib fl ru : Nat → Int32} {cn : Nat} {au : Int32} {i bn lf sd : Nat} {bi bo ba bb bg bl bh : Nat → Int32} (h : kg_inv ik ic ia ib fl ru cn au i bn lf sd bi bo ba bb bg bl bh) : sd ≤ bn := h.2.2.2.1
theorem kg_inv.set1 {ik ic ia ib fl ru : Nat → Int32} {cn : Nat} {au : Int32} {i bn lf sd : Nat} {bi bo ba bb bg bl bh : Nat → Int32} (h : kg_inv ik ic ia ib fl ru cn au i bn lf sd bi bo ba bb bg bl bh) : ∀ k, k < i → pk_br ik ic fl cn au k → (pq_c (pk_br ik ic fl cn au) k + 1 ≤ sd ↔ ¬ qk_n ik k i = i) := h.2.2.2.2.1
theorem kg_inv.lfl {ik ic ia ib fl ru : Nat → Int32} {cn : Nat} {au : Int32} {i bn lf sd : Nat} {bi bo ba bb bg bl bh : Nat → Int32} (h : kg_inv ik ic ia ib fl ru cn au i bn lf sd bi bo ba bb bg bl bh) : lf ≤ bn ∧ (lf = 0 ∨ ¬ (-10000) < bo lf) ∧ ∀ y, lf < y → y ≤ bn → (-10000) < bo y := h.2.2.2.2.2.1
theorem kg_inv.low {ik ic ia ib fl ru : Nat → Int32} {cn : Nat} {au : Int32} {i bn lf sd : Nat} {bi bo ba bb bg bl bh : Nat → Int32} (h : kg_inv ik ic ia ib fl ru cn au i bn lf sd bi bo ba bb bg bl bh) : ∃ lo : Nat → Nat, ∀ y, 1 ≤ y → y ≤ bn → bl y = nI (lo y) ∧ lo y < y ∧ (lo y = 0 ∨ ¬ (-10000) < bo (lo y)) ∧ ∀ x, lo y < x → x < y → (-10000) < bo x := h.2.2.2.2.2.2
variable {ik ic ia ib fl ru : Nat → Int32} {cn : Nat} {au : Int32} {i bn lf sd : Nat} {bi bo ba bb bg bl bh bg2 : Nat → Int32}
theorem kg_num {P : Nat → Prop} [DecidablePred P] {k i : Nat} (hk : k < i) (hp : P k) : pq_c P k + 1 ≤ pq_c P i := by
  have := pq_c_mono (P := P) (show k + 1 ≤ i from hk)
  rw [pq_c_s hp] at this
  exact this
theorem kg_0 (h : bg 0 = nI 0 ∧ bb 0 = nI 0 ∧ bh 0 = nI 0) : kg_inv ik ic ia ib fl ru cn au 0 0 0 0 bi bo ba bb bg bl bh := by
  refine ⟨?_, ?_, ?_, ?_, ?_, ?_, ?_⟩
  · exact rfl
  · exact fun k hk => absurd hk (Nat.not_lt_zero _)
  · exact h
  · exact Nat.le_refl _
  · exact fun k hk => absurd hk (Nat.not_lt_zero _)
  · exact ⟨Nat.le_refl _, Or.inl rfl, fun y h1 h2 => absurd h1 (by omega)⟩
  · exact ⟨fun _ => 0, fun y h1 h2 => absurd h1 (by omega)⟩
/-- a middle state: settled for the item i, which is not yet appended -/
abbrev kg_mid (ik ic ia ib fl ru : Nat → Int32) (cn : Nat) (au : Int32) (i bn lf sd : Nat) (bi bo ba bb bg bl bh : Nat → Int32) : Prop := (bn = pq_c (pk_br ik ic fl cn au) i) ∧ (∀ k, k < i → pk_br ik ic fl cn au k → bi (pq_c (pk_br ik ic fl cn au) k + 1) = nI k ∧ bo (pq_c (pk_br ik ic fl cn au) k + 1) = pk_cost ik ic fl ru cn k ∧ ba (pq_c (pk_br ik ic fl cn au) k + 1) = (if kg_cut ik cn k then ia k else nI 0) ∧ bb (pq_c (pk_br ik ic fl cn au) k + 1) = (if kg_cut ik cn k then ib k else nI 0) ∧ bh (pq_c (pk_br ik ic fl cn au) k + 1) = (if kg_cut ik cn k then nI 1 else nI 0) ∧ bg (pq_c (pk_br ik ic fl cn au) k + 1) = nI (if pk_fl ik fl cn k (nI 2) then k + 1 else if qk_n ik k (i + 1) = i + 1 then k else qk_n ik k (i + 1))) ∧ (bg 0 = nI 0 ∧ bb 0 = nI 0 ∧ bh 0 = nI 0) ∧ (sd ≤ bn) ∧ (∀ k, k < i → pk_br ik ic fl cn au k → (pq_c (pk_br ik ic fl cn au) k + 1 ≤ sd ↔ ¬ qk_n ik k (i + 1) = i + 1)) ∧ (lf ≤ bn ∧ (lf = 0 ∨ ¬ (-10000) < bo lf) ∧ ∀ y, lf < y → y ≤ bn → (-10000) < bo y) ∧ (∃ lo : Nat → Nat, ∀ y, 1 ≤ y → y ≤ bn → bl y = nI (lo y) ∧ lo y < y ∧ (lo y = 0 ∨ ¬ (-10000) < bo (lo y)) ∧ ∀ x, lo y < x → x < y → (-10000) < bo x)
theorem kg_mid.cnt {ik ic ia ib fl ru : Nat → Int32} {cn : Nat} {au : Int32} {i bn lf sd : Nat} {bi bo ba bb bg bl bh : Nat → Int32} (h : kg_mid ik ic ia ib fl ru cn au i bn lf sd bi bo ba bb bg bl bh) : bn = pq_c (pk_br ik ic fl cn au) i := h.1
theorem kg_mid.rows {ik ic ia ib fl ru : Nat → Int32} {cn : Nat} {au : Int32} {i bn lf sd : Nat} {bi bo ba bb bg bl bh : Nat → Int32} (h : kg_mid ik ic ia ib fl ru cn au i bn lf sd bi bo ba bb bg bl bh) : ∀ k, k < i → pk_br ik ic fl cn au k → bi (pq_c (pk_br ik ic fl cn au) k + 1) = nI k ∧ bo (pq_c (pk_br ik ic fl cn au) k + 1) = pk_cost ik ic fl ru cn k ∧ ba (pq_c (pk_br ik ic fl cn au) k + 1) = (if kg_cut ik cn k then ia k else nI 0) ∧ bb (pq_c (pk_br ik ic fl cn au) k + 1) = (if kg_cut ik cn k then ib k else nI 0) ∧ bh (pq_c (pk_br ik ic fl cn au) k + 1) = (if kg_cut ik cn k then nI 1 else nI 0) ∧ bg (pq_c (pk_br ik ic fl cn au) k + 1) = nI (if pk_fl ik fl cn k (nI 2) then k + 1 else if qk_n ik k (i + 1) = i + 1 then k else qk_n ik k (i + 1)) := h.2.1
theorem kg_mid.front {ik ic ia ib fl ru : Nat → Int32} {cn : Nat} {au : Int32} {i bn lf sd : Nat} {bi bo ba bb bg bl bh : Nat → Int32} (h : kg_mid ik ic ia ib fl ru cn au i bn lf sd bi bo ba bb bg bl bh) : bg 0 = nI 0 ∧ bb 0 = nI 0 ∧ bh 0 = nI 0 := h.2.2.1
theorem kg_mid.sle {ik ic ia ib fl ru : Nat → Int32} {cn : Nat} {au : Int32} {i bn lf sd : Nat} {bi bo ba bb bg bl bh : Nat → Int32} (h : kg_mid ik ic ia ib fl ru cn au i bn lf sd bi bo ba bb bg bl bh) : sd ≤ bn := h.2.2.2.1
theorem kg_mid.set1 {ik ic ia ib fl ru : Nat → Int32} {cn : Nat} {au : Int32} {i bn lf sd : Nat} {bi bo ba bb bg bl bh : Nat → Int32} (h : kg_mid ik ic ia ib fl ru cn au i bn lf sd bi bo ba bb bg bl bh) : ∀ k, k < i → pk_br ik ic fl cn au k → (pq_c (pk_br ik ic fl cn au) k + 1 ≤ sd ↔ ¬ qk_n ik k (i + 1) = i + 1) := h.2.2.2.2.1
theorem kg_mid.lfl {ik ic ia ib fl ru : Nat → Int32} {cn : Nat} {au : Int32} {i bn lf sd : Nat} {bi bo ba bb bg bl bh : Nat → Int32} (h : kg_mid ik ic ia ib fl ru cn au i bn lf sd bi bo ba bb bg bl bh) : lf ≤ bn ∧ (lf = 0 ∨ ¬ (-10000) < bo lf) ∧ ∀ y, lf < y → y ≤ bn → (-10000) < bo y := h.2.2.2.2.2.1
theorem kg_mid.low {ik ic ia ib fl ru : Nat → Int32} {cn : Nat} {au : Int32} {i bn lf sd : Nat} {bi bo ba bb bg bl bh : Nat → Int32} (h : kg_mid ik ic ia ib fl ru cn au i bn lf sd bi bo ba bb bg bl bh) : ∃ lo : Nat → Nat, ∀ y, 1 ≤ y → y ≤ bn → bl y = nI (lo y) ∧ lo y < y ∧ (lo y = 0 ∨ ¬ (-10000) < bo (lo y)) ∧ ∀ x, lo y < x → x < y → (-10000) < bo x := h.2.2.2.2.2.2
theorem kg_no (h : kg_inv ik ic ia ib fl ru cn au i bn lf sd bi bo ba bb bg bl bh) (hx : ¬ pm_bx ik i) : kg_mid ik ic ia ib fl ru cn au i bn lf sd bi bo ba bb bg bl bh := by
  refine ⟨?_, ?_, ?_, ?_, ?_, ?_, ?_⟩
  · exact h.cnt
  · exact fun k hk hp => by
      obtain ⟨a1, a2, a3, a4, a5, a6⟩ := h.rows k hk hp
      refine ⟨a1, a2, a3, a4, a5, ?_⟩
      rw [a6, qk_s hk, if_neg hx]
      have hb := (qk_sp (kd := ik) hk).2.1
      by_cases e : qk_n ik k i = i
      · simp only [if_pos e, if_true]
      · simp only [if_neg e, if_neg (show ¬ qk_n ik k i = i + 1 by omega)]
  · exact h.front
  · exact h.sle
  · exact fun k hk hp => by
      rw [h.set1 k hk hp, qk_s hk, if_neg hx]
      have hb := (qk_sp (kd := ik) hk).2.1
      by_cases e : qk_n ik k i = i
      · rw [if_pos e]; exact ⟨fun q => absurd e q, fun q => absurd rfl q⟩
      · rw [if_neg e]; exact ⟨fun _ => by omega, fun _ => e⟩
  · exact h.lfl
  · exact h.low
theorem kg_yes (h : kg_inv ik ic ia ib fl ru cn au i bn lf sd bi bo ba bb bg bl bh) (hi : i < 2 ^ 20) (hx : pm_bx ik i) (hs : ∀ y, bg2 y = if sd < y ∧ y ≤ bn ∧ bg y = bi y then nI i else bg y) : kg_mid ik ic ia ib fl ru cn au i bn lf bn bi bo ba bb bg2 bl bh := by
  refine ⟨?_, ?_, ?_, ?_, ?_, ?_, ?_⟩
  · exact h.cnt
  · exact fun k hk hp => by
      obtain ⟨a1, a2, a3, a4, a5, a6⟩ := h.rows k hk hp
      refine ⟨a1, a2, a3, a4, a5, ?_⟩
      have hb := (qk_sp (kd := ik) hk).2.1
      have hs1 := h.set1 k hk hp
      have hnum := kg_num (P := pk_br ik ic fl cn au) hk hp
      rw [hs, a6, a1, qk_s hk, if_pos hx]
      by_cases e : qk_n ik k i = i
      · have hsd : sd < pq_c (pk_br ik ic fl cn au) k + 1 := Nat.lt_of_not_le (fun q => (hs1.mp q) e)
        simp only [if_pos e]
        by_cases hf : pk_fl ik fl cn k (nI 2)
        · rw [if_pos hf, if_pos hf, if_neg (fun q => by have := (nI_eq (by omega) (by omega)).mp q.2.2; omega)]
        · rw [if_neg hf, if_neg hf, if_pos ⟨hsd, by rw [h.cnt]; exact hnum, rfl⟩, if_neg (by omega)]
      · have hsd : ¬ sd < pq_c (pk_br ik ic fl cn au) k + 1 := Nat.not_lt_of_le (hs1.mpr e)
        simp only [if_neg e]
        rw [if_neg (fun q => hsd q.1)]
        rw [if_neg (show ¬ qk_n ik k i = i + 1 by omega)]
  · exact by
      obtain ⟨f1, f2, f3⟩ := h.front
      refine ⟨?_, f2, f3⟩
      rw [hs, if_neg (fun q => absurd q.1 (Nat.not_lt_zero _))]
      exact f1
  · exact Nat.le_refl _
  · exact fun k hk hp => by
      have hb := (qk_sp (kd := ik) hk).2.1
      have hnum := kg_num (P := pk_br ik ic fl cn au) hk hp
      rw [← h.cnt] at hnum
      refine ⟨fun _ => ?_, fun _ => hnum⟩
      rw [qk_s hk, if_pos hx]
      split
      · omega
      · omega
  · exact h.lfl
  · exact h.low
theorem kg_skip (h : kg_mid ik ic ia ib fl ru cn au i bn lf sd bi bo ba bb bg bl bh) (hp : ¬ pk_br ik ic fl cn au i) : kg_inv ik ic ia ib fl ru cn au (i + 1) bn lf sd bi bo ba bb bg bl bh := by
  refine ⟨?_, ?_, ?_, ?_, ?_, ?_, ?_⟩
  · exact by rw [pq_c_n hp]; exact h.cnt
  · exact fun k hk q => (show k < i ∨ k = i by omega).elim (fun w => h.rows k w q) (fun w => absurd (w ▸ q) hp)
  · exact h.front
  · exact h.sle
  · exact fun k hk q => (show k < i ∨ k = i by omega).elim (fun w => h.set1 k w q) (fun w => absurd (w ▸ q) hp)
  · exact h.lfl
  · exact h.low
/-- lowest breaks, with one more -/
theorem kg_low {nc : Int32} {bo2 bl2 : Nat → Int32} {lf2 : Nat} (hl : lf ≤ bn ∧ (lf = 0 ∨ ¬ (-10000) < bo lf) ∧ ∀ y, lf < y → y ≤ bn → (-10000) < bo y) (hlo : ∃ lo : Nat → Nat, ∀ y, 1 ≤ y → y ≤ bn → bl y = nI (lo y) ∧ lo y < y ∧ (lo y = 0 ∨ ¬ (-10000) < bo (lo y)) ∧ ∀ x, lo y < x → x < y → (-10000) < bo x) (eo : bo2 = upd bo (bn + 1) nc) (el : bl2 = upd bl (bn + 1) (nI lf)) (ef : lf2 = if (-10000) < nc then lf else bn + 1) :
    (lf2 ≤ bn + 1 ∧ (lf2 = 0 ∨ ¬ (-10000) < bo2 lf2) ∧ ∀ y, lf2 < y → y ≤ bn + 1 → (-10000) < bo2 y) ∧ ∃ lo : Nat → Nat, ∀ y, 1 ≤ y → y ≤ bn + 1 → bl2 y = nI (lo y) ∧ lo y < y ∧ (lo y = 0 ∨ ¬ (-10000) < bo2 (lo y)) ∧ ∀ x, lo y < x → x < y → (-10000) < bo2 x := by
  have e1 : ∀ y, y ≤ bn → bo2 y = bo y := fun y hy => by rw [eo]; unfold upd; rw [if_neg (by omega)]
  have e2 : bo2 (bn + 1) = nc := by rw [eo]; unfold upd; rw [if_pos rfl]
  obtain ⟨l1, l2, l3⟩ := hl
  obtain ⟨lo, hlo⟩ := hlo
  constructor
  · by_cases hc : (-10000) < nc
    · rw [if_pos hc] at ef
      subst ef
      refine ⟨by omega, l2.elim Or.inl (fun q => Or.inr (by rw [e1 _ l1]; exact q)), fun y h1 h2 => ?_⟩
      by_cases e : y = bn + 1
      · rw [e, e2]; exact hc
      · rw [e1 y (by omega)]; exact l3 y h1 (by omega)
    · rw [if_neg hc] at ef
      subst ef
      exact ⟨Nat.le_refl _, Or.inr (by rw [e2]; exact hc), fun y h1 h2 => absurd h1 (by omega)⟩
  · refine ⟨fun y => if y = bn + 1 then lf else lo y, fun y h1 h2 => ?_⟩
    by_cases e : y = bn + 1
    · subst e
      simp only [if_true]
      refine ⟨by rw [el]; unfold upd; rw [if_pos rfl], by omega, l2.elim Or.inl (fun q => Or.inr (by rw [e1 _ l1]; exact q)), fun x h3 h4 => ?_⟩
      rw [e1 x (by omega)]
      exact l3 x h3 (by omega)
    · simp only [if_neg e]
      obtain ⟨g1, g2, g3, g4⟩ := hlo y h1 (by omega)
      refine ⟨by rw [el]; unfold upd; rw [if_neg e]; exact g1, g2, g3.elim Or.inl (fun q => Or.inr (by rw [e1 _ (by omega)]; exact q)), fun x h3 h4 => ?_⟩
      rw [e1 x (by omega)]
      exact g4 x h3 h4
theorem kg_app {bi2 bo2 ba2 bb2 bg3 bl2 bh2 : Nat → Int32} {lf2 : Nat} (h : kg_mid ik ic ia ib fl ru cn au i bn lf sd bi bo ba bb bg bl bh) (hp : pk_br ik ic fl cn au i) (hi : i < cn) (e1 : bi2 = upd bi (bn + 1) (nI i)) (e2 : bo2 = upd bo (bn + 1) (pk_cost ik ic fl ru cn i)) (e3 : ba2 = if kg_cut ik cn i then upd (upd ba (bn + 1) (nI 0)) (bn + 1) (ia i) else upd ba (bn + 1) (nI 0)) (e4 : bb2 = if kg_cut ik cn i then upd (upd bb (bn + 1) (nI 0)) (bn + 1) (ib i) else upd bb (bn + 1) (nI 0)) (e5 : bh2 = if kg_cut ik cn i then upd (upd bh (bn + 1) (nI 0)) (bn + 1) (nI 1) else upd bh (bn + 1) (nI 0)) (e6 : bg3 = if pk_fl ik fl cn i (nI 2) then upd (upd bg (bn + 1) (nI i)) (bn + 1) (nI (i + 1)) else upd bg (bn + 1) (nI i)) (e7 : bl2 = upd bl (bn + 1) (nI lf)) (e8 : lf2 = if (-10000) < pk_cost ik ic fl ru cn i then lf else bn + 1) :
    kg_inv ik ic ia ib fl ru cn au (i + 1) (bn + 1) lf2 sd bi2 bo2 ba2 bb2 bg3 bl2 bh2 := by
  have hc := h.cnt
  have ho : ∀ y, ¬ y = bn + 1 → bi2 y = bi y ∧ bo2 y = bo y ∧ ba2 y = ba y ∧ bb2 y = bb y ∧ bh2 y = bh y ∧ bg3 y = bg y := fun y hy => by
    subst e1; subst e2; subst e3; subst e4; subst e5; subst e6
    refine ⟨by simp only [upd, if_neg hy], by simp only [upd, if_neg hy], ?_, ?_, ?_, ?_⟩ <;> split <;> simp only [upd, if_neg hy]
  have hl := kg_low h.lfl h.low e2 e7 e8
  have hq : pq_c (pk_br ik ic fl cn au) i + 1 = bn + 1 := by rw [hc]
  refine ⟨by rw [pq_c_s hp, hc], fun k hk q => ?_, ?_, Nat.le_succ_of_le h.sle, fun k hk q => ?_, hl.1, hl.2⟩
  · rcases (show k < i ∨ k = i by omega) with w | w
    · obtain ⟨o1, o2, o3, o4, o5, o6⟩ := ho (pq_c (pk_br ik ic fl cn au) k + 1) (by have := kg_num (P := pk_br ik ic fl cn au) w q; omega)
      obtain ⟨a1, a2, a3, a4, a5, a6⟩ := h.rows k w q
      exact ⟨o1.trans a1, o2.trans a2, o3.trans a3, o4.trans a4, o5.trans a5, o6.trans a6⟩
    · subst w
      rw [hq, qk_0, if_pos rfl]
      refine ⟨by rw [e1]; simp only [upd, if_true], by rw [e2]; simp only [upd, if_true], ?_, ?_, ?_, ?_⟩
      · rw [e3]; split <;> simp only [upd, if_true]
      · rw [e4]; split <;> simp only [upd, if_true]
      · rw [e5]; split <;> simp only [upd, if_true]
      · rw [e6]; split <;> simp only [upd, if_true]
  · obtain ⟨o1, o2, o3, o4, o5, o6⟩ := ho 0 (by omega)
    exact ⟨o6.trans h.front.1, o4.trans h.front.2.1, o5.trans h.front.2.2⟩
  · rcases (show k < i ∨ k = i by omega) with w | w
    · exact h.set1 k w q
    · subst w
      rw [hq, qk_0]
      have := h.sle
      exact ⟨fun z => by omega, fun z => absurd rfl z⟩
end KG
