/-! the gathered breaks are the reference's -/
abbrev kg_out (ik ic ia ib fl ru : Nat → Int32) (cn : Nat) (au : Int32) (B : Nat) (bi bo ba bb bg bl bh : Nat → Int32) : Prop := (B = pq_c (pk_br ik ic fl cn au) cn + 1) ∧ (∀ k, k < cn → pk_br ik ic fl cn au k → bi (pq_c (pk_br ik ic fl cn au) k + 1) = nI k ∧ bo (pq_c (pk_br ik ic fl cn au) k + 1) = pk_cost ik ic fl ru cn k ∧ ba (pq_c (pk_br ik ic fl cn au) k + 1) = (if kg_cut ik cn k then ia k else nI 0) ∧ bb (pq_c (pk_br ik ic fl cn au) k + 1) = (if kg_cut ik cn k then ib k else nI 0) ∧ bh (pq_c (pk_br ik ic fl cn au) k + 1) = (if kg_cut ik cn k then nI 1 else nI 0) ∧ bg (pq_c (pk_br ik ic fl cn au) k + 1) = nI (if pk_fl ik fl cn k (nI 2) then k + 1 else qk_n ik k cn)) ∧ (bg 0 = nI 0 ∧ bb 0 = nI 0 ∧ bh 0 = nI 0) ∧ (bi B = nI cn ∧ bo B = (-10000) ∧ ba B = nI 0 ∧ bb B = nI 0 ∧ bh B = nI 0 ∧ bg B = nI cn) ∧ (∃ lo : Nat → Nat, ∀ y, 1 ≤ y → y ≤ B → bl y = nI (lo y) ∧ lo y < y ∧ (lo y = 0 ∨ ¬ (-10000) < bo (lo y)) ∧ ∀ x, lo y < x → x < y → (-10000) < bo x)
theorem kg_out.cnt {ik ic ia ib fl ru : Nat → Int32} {cn : Nat} {au : Int32} {B : Nat} {bi bo ba bb bg bl bh : Nat → Int32} (h : kg_out ik ic ia ib fl ru cn au B bi bo ba bb bg bl bh) : B = pq_c (pk_br ik ic fl cn au) cn + 1 := h.1
theorem kg_out.rows {ik ic ia ib fl ru : Nat → Int32} {cn : Nat} {au : Int32} {B : Nat} {bi bo ba bb bg bl bh : Nat → Int32} (h : kg_out ik ic ia ib fl ru cn au B bi bo ba bb bg bl bh) : ∀ k, k < cn → pk_br ik ic fl cn au k → bi (pq_c (pk_br ik ic fl cn au) k + 1) = nI k ∧ bo (pq_c (pk_br ik ic fl cn au) k + 1) = pk_cost ik ic fl ru cn k ∧ ba (pq_c (pk_br ik ic fl cn au) k + 1) = (if kg_cut ik cn k then ia k else nI 0) ∧ bb (pq_c (pk_br ik ic fl cn au) k + 1) = (if kg_cut ik cn k then ib k else nI 0) ∧ bh (pq_c (pk_br ik ic fl cn au) k + 1) = (if kg_cut ik cn k then nI 1 else nI 0) ∧ bg (pq_c (pk_br ik ic fl cn au) k + 1) = nI (if pk_fl ik fl cn k (nI 2) then k + 1 else qk_n ik k cn) := h.2.1
theorem kg_out.front {ik ic ia ib fl ru : Nat → Int32} {cn : Nat} {au : Int32} {B : Nat} {bi bo ba bb bg bl bh : Nat → Int32} (h : kg_out ik ic ia ib fl ru cn au B bi bo ba bb bg bl bh) : bg 0 = nI 0 ∧ bb 0 = nI 0 ∧ bh 0 = nI 0 := h.2.2.1
theorem kg_out.fin {ik ic ia ib fl ru : Nat → Int32} {cn : Nat} {au : Int32} {B : Nat} {bi bo ba bb bg bl bh : Nat → Int32} (h : kg_out ik ic ia ib fl ru cn au B bi bo ba bb bg bl bh) : bi B = nI cn ∧ bo B = (-10000) ∧ ba B = nI 0 ∧ bb B = nI 0 ∧ bh B = nI 0 ∧ bg B = nI cn := h.2.2.2.1
theorem kg_out.low {ik ic ia ib fl ru : Nat → Int32} {cn : Nat} {au : Int32} {B : Nat} {bi bo ba bb bg bl bh : Nat → Int32} (h : kg_out ik ic ia ib fl ru cn au B bi bo ba bb bg bl bh) : ∃ lo : Nat → Nat, ∀ y, 1 ≤ y → y ≤ B → bl y = nI (lo y) ∧ lo y < y ∧ (lo y = 0 ∨ ¬ (-10000) < bo (lo y)) ∧ ∀ x, lo y < x → x < y → (-10000) < bo x := h.2.2.2.2
section KG2
variable {ik ic ia ib fl ru : Nat → Int32} {cn : Nat} {au : Int32} {bn lf sd : Nat} {bi bo ba bb bg bl bh bg2 : Nat → Int32}
theorem kg_fin {bi2 bo2 ba2 bb2 bg3 bl2 bh2 : Nat → Int32} (h : kg_inv ik ic ia ib fl ru cn au cn bn lf sd bi bo ba bb bg bl bh) (hc : cn < 2 ^ 20) (hs : ∀ y, bg2 y = if sd < y ∧ y ≤ bn ∧ bg y = bi y then nI cn else bg y) (e1 : bi2 = upd bi (bn + 1) (nI cn)) (e2 : bo2 = upd bo (bn + 1) (-10000)) (e3 : ba2 = upd ba (bn + 1) (nI 0)) (e4 : bb2 = upd bb (bn + 1) (nI 0)) (e5 : bh2 = upd bh (bn + 1) (nI 0)) (e6 : bg3 = upd bg2 (bn + 1) (nI cn)) (e7 : bl2 = upd bl (bn + 1) (nI lf)) : kg_out ik ic ia ib fl ru cn au (bn + 1) bi2 bo2 ba2 bb2 bg3 bl2 bh2 := by
  have hc2 := h.cnt
  refine ⟨by rw [hc2], fun k hk hp => ?_, ?_, ?_, (kg_low h.lfl h.low e2 e7 rfl).2⟩
  · have hnum := kg_num (P := pk_br ik ic fl cn au) hk hp
    have hy : ¬ pq_c (pk_br ik ic fl cn au) k + 1 = bn + 1 := by omega
    obtain ⟨a1, a2, a3, a4, a5, a6⟩ := h.rows k hk hp
    subst e1; subst e2; subst e3; subst e4; subst e5; subst e6
    simp only [upd, if_neg hy]
    refine ⟨a1, a2, a3, a4, a5, ?_⟩
    have hs1 := h.set1 k hk hp
    rw [hs, a6, a1]
    by_cases e : qk_n ik k cn = cn
    · have hsd : sd < pq_c (pk_br ik ic fl cn au) k + 1 := Nat.lt_of_not_le (fun q => (hs1.mp q) e)
      simp only [if_pos e]
      by_cases hf : pk_fl ik fl cn k (nI 2)
      · simp only [if_pos hf]
        rw [if_neg (fun q => by have := (nI_eq (by omega) (by omega)).mp q.2.2; omega)]
      · simp only [if_neg hf]
        rw [if_pos ⟨hsd, by omega, trivial⟩, e]
    · have hsd : ¬ sd < pq_c (pk_br ik ic fl cn au) k + 1 := Nat.not_lt_of_le (hs1.mpr e)
      simp only [if_neg e]
      rw [if_neg (fun q => hsd q.1)]
  · obtain ⟨f1, f2, f3⟩ := h.front
    subst e4; subst e5; subst e6
    simp only [upd, if_neg (show ¬ 0 = bn + 1 by omega)]
    refine ⟨?_, f2, f3⟩
    rw [hs, if_neg (fun q => absurd q.1 (Nat.not_lt_zero _))]
    exact f1
  · subst e1; subst e2; subst e3; subst e4; subst e5; subst e6
    simp only [upd, if_true]
    simp only [and_self]
end KG2
/-- the items of the class and of the reference -/
abbrev qi_H (ik ic ia ib fl kd wd sr od sk : Nat → Int32) (iw is_ ih ij : Nat → Int64) (cn : Nat) : Prop := (∀ x, x < cn → ik x = kd x) ∧ (∀ x, x < cn → kd x = nI 3 → ic x = wd x) ∧ (∀ x, x < cn → kd x = nI 4 → fl x = od x ∧ ia x = sr x ∧ ib x = sk x ∧ ∃ j, j < 8 ∧ od x = nI j) ∧ (∀ i, i < cn → iw (i + 1) = iw i + pm_it kd wd sr od sk i 0) ∧ (∀ i, i < cn → is_ (i + 1) = is_ i + pm_it kd wd sr od sk i 1) ∧ (∀ i, i < cn → ih (i + 1) = ih i + (pm_it kd wd sr od sk i 2 + pm_it kd wd sr od sk i 3 + pm_it kd wd sr od sk i 4)) ∧ (∀ i, i < cn → ij (i + 1) = ij i + pm_it kd wd sr od sk i 5)
theorem qi_H.hkd {ik ic ia ib fl kd wd sr od sk : Nat → Int32} {iw is_ ih ij : Nat → Int64} {cn : Nat} (h : qi_H ik ic ia ib fl kd wd sr od sk iw is_ ih ij cn) : ∀ x, x < cn → ik x = kd x := h.1
theorem qi_H.hpe {ik ic ia ib fl kd wd sr od sk : Nat → Int32} {iw is_ ih ij : Nat → Int64} {cn : Nat} (h : qi_H ik ic ia ib fl kd wd sr od sk iw is_ ih ij cn) : ∀ x, x < cn → kd x = nI 3 → ic x = wd x := h.2.1
theorem qi_H.hcu {ik ic ia ib fl kd wd sr od sk : Nat → Int32} {iw is_ ih ij : Nat → Int64} {cn : Nat} (h : qi_H ik ic ia ib fl kd wd sr od sk iw is_ ih ij cn) : ∀ x, x < cn → kd x = nI 4 → fl x = od x ∧ ia x = sr x ∧ ib x = sk x ∧ ∃ j, j < 8 ∧ od x = nI j := h.2.2.1
theorem qi_H.hiw {ik ic ia ib fl kd wd sr od sk : Nat → Int32} {iw is_ ih ij : Nat → Int64} {cn : Nat} (h : qi_H ik ic ia ib fl kd wd sr od sk iw is_ ih ij cn) : ∀ i, i < cn → iw (i + 1) = iw i + pm_it kd wd sr od sk i 0 := h.2.2.2.1
theorem qi_H.his {ik ic ia ib fl kd wd sr od sk : Nat → Int32} {iw is_ ih ij : Nat → Int64} {cn : Nat} (h : qi_H ik ic ia ib fl kd wd sr od sk iw is_ ih ij cn) : ∀ i, i < cn → is_ (i + 1) = is_ i + pm_it kd wd sr od sk i 1 := h.2.2.2.2.1
theorem qi_H.hih {ik ic ia ib fl kd wd sr od sk : Nat → Int32} {iw is_ ih ij : Nat → Int64} {cn : Nat} (h : qi_H ik ic ia ib fl kd wd sr od sk iw is_ ih ij cn) : ∀ i, i < cn → ih (i + 1) = ih i + (pm_it kd wd sr od sk i 2 + pm_it kd wd sr od sk i 3 + pm_it kd wd sr od sk i 4) := h.2.2.2.2.2.1
theorem qi_H.hij {ik ic ia ib fl kd wd sr od sk : Nat → Int32} {iw is_ ih ij : Nat → Int64} {cn : Nat} (h : qi_H ik ic ia ib fl kd wd sr od sk iw is_ ih ij cn) : ∀ i, i < cn → ij (i + 1) = ij i + pm_it kd wd sr od sk i 5 := h.2.2.2.2.2.2
theorem qi_bit : ∀ j, j < 8 → ((nI j &&& nI 1 = nI 1 ↔ ¬ nI j &&& nI 1 = 0) ∧ (nI j &&& nI 2 = nI 2 ↔ ¬ nI j &&& nI 2 = 0)) := by decide +kernel
theorem pq_c_cg {P Q : Nat → Prop} [DecidablePred P] [DecidablePred Q] : ∀ N, (∀ k, k < N → (P k ↔ Q k)) → pq_c P N = pq_c Q N
  | 0, _ => rfl
  | N + 1, h => by
    have ih := pq_c_cg N (fun k hk => h k (by omega))
    have hN := h N (by omega)
    by_cases q : P N
    · rw [pq_c_s q, pq_c_s (hN.mp q), ih]
    · rw [pq_c_n q, pq_c_n (fun w => q (hN.mpr w)), ih]
section QI
variable {ik ic ia ib fl kd wd sr od sk ru me si : Nat → Int32} {iw is_ ih ij : Nat → Int64} {cn mn ps : Nat} {au : Int32} {B : Nat} {bi bo ba bb bg bl bh : Nat → Int32}
theorem qi_br (h : qi_H ik ic ia ib fl kd wd sr od sk iw is_ ih ij cn) (ha : au = 0 ↔ ¬ 1 < ps) : ∀ k, k < cn → ((pk_br ik ic fl cn au) k ↔ (pm_br kd wd od cn ps) k) := fun k hk => qa_br h.hkd h.hpe (fun x hx h4 => (h.hcu x hx h4).1) ha hk
theorem qi_cnt (h : qi_H ik ic ia ib fl kd wd sr od sk iw is_ ih ij cn) (ha : au = 0 ↔ ¬ 1 < ps) : pq_c (pm_br kd wd od cn ps) (cn + 1) = pq_c (pk_br ik ic fl cn au) cn + 1 ∧ ∀ k, k ≤ cn → pq_c (pm_br kd wd od cn ps) k = pq_c (pk_br ik ic fl cn au) k := by
  have h1 : ∀ k, k ≤ cn → pq_c (pm_br kd wd od cn ps) k = pq_c (pk_br ik ic fl cn au) k := fun k hk => (pq_c_cg k (fun x hx => qi_br h ha x (by omega))).symm
  refine ⟨?_, h1⟩
  rw [pq_c_s (show (pm_br kd wd od cn ps) cn from by unfold pm_br; rw [if_pos rfl]; trivial), h1 cn (Nat.le_refl _)]
/-- the break of number y -/
theorem qi_at (h : qi_H ik ic ia ib fl kd wd sr od sk iw is_ ih ij cn) (ha : au = 0 ↔ ¬ 1 < ps) (hB : B = pq_c (pk_br ik ic fl cn au) cn + 1) {y : Nat} (h1 : 1 ≤ y) (h2 : y ≤ B) : (y < B ∧ pq_p (pm_br kd wd od cn ps) (cn + 1) (y - 1) < cn ∧ (pk_br ik ic fl cn au) (pq_p (pm_br kd wd od cn ps) (cn + 1) (y - 1)) ∧ pq_c (pk_br ik ic fl cn au) (pq_p (pm_br kd wd od cn ps) (cn + 1) (y - 1)) + 1 = y) ∨ (y = B ∧ pq_p (pm_br kd wd od cn ps) (cn + 1) (y - 1) = cn) := by
  obtain ⟨c1, c2⟩ := qi_cnt h ha
  obtain ⟨s1, s2, s3⟩ := pq_p_spec (P := (pm_br kd wd od cn ps)) (cn + 1) (y - 1) (by omega)
  by_cases e : pq_p (pm_br kd wd od cn ps) (cn + 1) (y - 1) = cn
  · rw [e, c2 cn (Nat.le_refl _)] at s3
    exact Or.inr ⟨by omega, e⟩
  · have hlt : pq_p (pm_br kd wd od cn ps) (cn + 1) (y - 1) < cn := by omega
    rw [c2 _ (by omega)] at s3
    have hk := (qi_br h ha _ hlt).mpr s1
    have hn := kg_num (P := (pk_br ik ic fl cn au)) hlt hk
    exact Or.inl ⟨by omega, hlt, hk, by omega⟩
theorem qk_cg {kd kd2 : Nat → Int32} {k b : Nat} (hk : k < b) (h : ∀ x, x < b → kd x = kd2 x) : qk_n kd k b = qk_n kd2 k b := by
  obtain ⟨a1, a2, a3, a4⟩ := qk_sp (kd := kd2) hk
  have e : ∀ x, x < b → (pm_bx kd x ↔ pm_bx kd2 x) := fun x hx => by unfold pm_bx; rw [h x hx]
  refine qk_u hk a1 a2 (fun x h1 h2 q => a3 x h1 h2 ((e x (by omega)).mp q)) ?_
  rcases a4 with q | q
  · exact Or.inl q
  · rcases Nat.lt_or_ge (qk_n kd2 k b) b with w | w
    · exact Or.inr ((e _ w).mpr q)
    · exact Or.inl (by omega)
theorem pk_cost_cg {ru2 : Nat → Int32} {i : Nat} (h : ∀ k, k < 9 → ru2 k = ru k) : pk_cost ik ic fl ru2 cn i = pk_cost ik ic fl ru cn i := by
  unfold pk_cost
  rw [h 3 (by decide), h 4 (by decide)]
theorem ql_of {ru2 ms : Nat → Int32} {l0 l1 l2 l3 r0 r1 r2 r3 : Int64} {mc : Nat} (h : qi_H ik ic ia ib fl kd wd sr od sk iw is_ ih ij cn) (ha : au = 0 ↔ ¬ 1 < ps) (hp1 : 1 ≤ ps) (hp3 : ps ≤ 3) (hc : cn ≤ 4096) (hg : kg_out ik ic ia ib fl ru2 cn au B bi bo ba bb bg bl bh) (hB : B ≤ 400) (hru : ∀ k, k < 9 → ru2 k = ru k) (hms : ∀ n, 1 ≤ n → ms (max 1 (min n mc) - 1) = me (pm_mi n mn))
    (hl0 : l0 = (si 0).toInt64) (hl1 : l1 = if si 2 = 0 then (si 1).toInt64 else 0) (hl2 : l2 = if si 2 ≤ 0 then 0 else (si 1).toInt64) (hl3 : l3 = (si 3).toInt64) (hr0 : r0 = (si 4).toInt64) (hr1 : r1 = if si 6 = 0 then (si 5).toInt64 else 0) (hr2 : r2 = if si 6 ≤ 0 then 0 else (si 5).toInt64) (hr3 : r3 = (si 7).toInt64) :
    ql_H (⟨iw, is_, ih, ij, ba, bb, bo, bh, ms, ru2, l0, l1, l2, l3, r0, r1, r2, r3, mc, B, ps, fun y => (bi y).toNatClampNeg, fun x => (bg x).toNatClampNeg, fun y => (bl y).toNatClampNeg⟩ : kj_D) kd wd sr od sk ru me si cn mn ps (pq_p (pm_br kd wd od cn ps) (cn + 1)) B := by
  have hat := fun {y : Nat} (h1 : 1 ≤ y) (h2 : y ≤ B) => qi_at (ps := ps) (sr := sr) (sk := sk) h ha hg.cnt h1 h2
  have hcut : ∀ k, k < cn → (kg_cut ik cn k ↔ pm_hy kd cn k) := fun k hk => by
    unfold kg_cut pm_hy
    rw [h.hkd k hk]
  have hti : ∀ y, 1 ≤ y → y ≤ B → (bi y).toNatClampNeg = pq_p (pm_br kd wd od cn ps) (cn + 1) (y - 1) := fun y h1 h2 => by
    rcases hat h1 h2 with ⟨a1, a2, a3, a4⟩ | ⟨a1, a2⟩
    · have := (hg.rows _ a2 a3).1
      rw [a4] at this
      rw [this, nI_clamp (by omega)]
    · rw [a1, hg.fin.1, nI_clamp (by omega), ← a1, a2]
  have hbo : ∀ y, 1 ≤ y → y ≤ B → bo y = pm_pen kd wd od ru cn (pq_p (pm_br kd wd od cn ps) (cn + 1) (y - 1)) := fun y h1 h2 => by
    rcases hat h1 h2 with ⟨a1, a2, a3, a4⟩ | ⟨a1, a2⟩
    · have := (hg.rows _ a2 a3).2.1
      rw [a4] at this
      rw [this, pk_cost_cg hru]
      exact qa_pen h.hkd h.hpe (fun x hx h4 => (h.hcu x hx h4).1) (fun x hx h4 => by obtain ⟨_, _, _, j, j1, j2⟩ := h.hcu x hx h4; rw [j2]; exact (qi_bit j j1).1) a2
    · rw [a2, a1, hg.fin.2.1]
      unfold pm_pen
      rw [if_pos rfl]
  have hmo : ∀ x y, x < y → y ≤ B → 1 ≤ x → pq_p (pm_br kd wd od cn ps) (cn + 1) (x - 1) < pq_p (pm_br kd wd od cn ps) (cn + 1) (y - 1) := fun x y hx hy h1 => pq_mono (by omega) (by rw [(qi_cnt (ps := ps) h ha).1, ← hg.cnt]; omega)
  refine ⟨rfl, rfl, hru, hp1, hp3, h.hiw, h.his, h.hih, h.hij, hti, fun x y hx hy => ?_, fun y h1 h2 => ?_, fun x hx => ?_, hms, hl0, hl1, hl2, hl3, hr0, hr1, hr2, hr3, hbo, fun x hx => ?_, fun x y hx hy => ?_, fun y h1 h2 => ?_, fun x hx => ?_⟩
  · show min (bg x).toNatClampNeg _ = _
    rcases Nat.eq_zero_or_pos x with e | e
    · subst e
      rw [hg.front.1, if_pos rfl, nI_clamp (by omega)]
      exact Nat.zero_min _
    · rw [if_neg (by omega)]
      have hlt := hmo x y hx hy e
      rcases hat e (show x ≤ B by omega) with ⟨a1, a2, a3, a4⟩ | ⟨a1, a2⟩
      · have hb := (hg.rows _ a2 a3).2.2.2.2.2
        rw [a4] at hb
        have hbr : pq_p (pm_br kd wd od cn ps) (cn + 1) (y - 1) ≤ cn := by
          rcases hat (show 1 ≤ y by omega) hy with ⟨_, b2, _⟩ | ⟨_, b2⟩ <;> omega
        have hw : pk_fl ik fl cn (pq_p (pm_br kd wd od cn ps) (cn + 1) (x - 1)) (nI 2) ↔ pm_wh kd od (pq_p (pm_br kd wd od cn ps) (cn + 1) (x - 1)) := by
          unfold pk_fl pm_wh
          rw [h.hkd _ a2]
          constructor
          · rintro ⟨⟨_, c1⟩, c2⟩
            obtain ⟨f1, _, _, j, j1, j2⟩ := h.hcu _ a2 c1
            rw [f1, j2] at c2
            exact ⟨c1, by rw [j2]; exact (qi_bit j j1).2.mpr c2⟩
          · rintro ⟨c1, c2⟩
            obtain ⟨f1, _, _, j, j1, j2⟩ := h.hcu _ a2 c1
            rw [j2] at c2
            exact ⟨⟨a2, c1⟩, by rw [f1, j2]; exact (qi_bit j j1).2.mp c2⟩
        unfold pr_bg
        rw [hb]
        by_cases hf : pk_fl ik fl cn (pq_p (pm_br kd wd od cn ps) (cn + 1) (x - 1)) (nI 2)
        · rw [if_pos hf, if_pos (hw.mp hf), nI_clamp (by omega)]
          exact Nat.min_eq_left hlt
        · have hsp := (qk_sp (kd := ik) a2).2.1
          rw [if_neg hf, if_neg (fun q => hf (hw.mpr q)), nI_clamp (by omega), qk_min hlt hbr]
          exact qk_cg hlt (fun z hz => h.hkd z (by omega))
      · omega
  · show (ba y).toInt64 = _
    unfold qr_ad
    rcases hat h1 h2 with ⟨a1, a2, a3, a4⟩ | ⟨a1, a2⟩
    · have hb := (hg.rows _ a2 a3).2.2.1
      rw [a4] at hb
      rw [hb]
      by_cases q : kg_cut ik cn (pq_p (pm_br kd wd od cn ps) (cn + 1) (y - 1))
      · have q2 := (hcut _ a2).mp q
        rw [if_pos q, if_pos q2, (h.hcu _ a2 q2.2).2.1]
      · rw [if_neg q, if_neg (fun w => q ((hcut _ a2).mpr w))]; rfl
    · rw [a1, hg.fin.2.2.1, ← a1, a2, if_neg (fun w => absurd w.1 (Nat.lt_irrefl _))]; rfl
  · show (bb x).toInt64 = _
    unfold qr_be
    rcases Nat.eq_zero_or_pos x with e | e
    · rw [if_pos e, e, hg.front.2.1]; rfl
    · rw [if_neg (by omega)]
      rcases hat e hx with ⟨a1, a2, a3, a4⟩ | ⟨a1, a2⟩
      · have hb := (hg.rows _ a2 a3).2.2.2.1
        rw [a4] at hb
        rw [hb]
        by_cases q : kg_cut ik cn (pq_p (pm_br kd wd od cn ps) (cn + 1) (x - 1))
        · have q2 := (hcut _ a2).mp q
          rw [if_pos q, if_pos q2, (h.hcu _ a2 q2.2).2.2.1]
        · rw [if_neg q, if_neg (fun w => q ((hcut _ a2).mpr w))]; rfl
      · rw [a1, hg.fin.2.2.2.1, ← a1, a2, if_neg (fun w => absurd w.1 (Nat.lt_irrefl _))]; rfl
  · show bh x = 0 ↔ _
    rcases Nat.eq_zero_or_pos x with e | e
    · rw [e, hg.front.2.2]
      exact ⟨fun _ q => absurd q.1 (Nat.lt_irrefl _), fun _ => rfl⟩
    · have hh : qr_h kd cn (pq_p (pm_br kd wd od cn ps) (cn + 1)) x ↔ pm_hy kd cn (pq_p (pm_br kd wd od cn ps) (cn + 1) (x - 1)) := ⟨fun q => q.2, fun q => ⟨e, q⟩⟩
      rw [hh]
      rcases hat e hx with ⟨a1, a2, a3, a4⟩ | ⟨a1, a2⟩
      · have hb := (hg.rows _ a2 a3).2.2.2.2.1
        rw [a4] at hb
        rw [hb]
        by_cases q : kg_cut ik cn (pq_p (pm_br kd wd od cn ps) (cn + 1) (x - 1))
        · rw [if_pos q]
          exact ⟨fun w => absurd w (by decide), fun w => absurd ((hcut _ a2).mp q) w⟩
        · rw [if_neg q]
          exact ⟨fun _ w => q ((hcut _ a2).mpr w), fun _ => rfl⟩
      · rw [a1, hg.fin.2.2.2.2.1, ← a1, a2]
        exact ⟨fun _ w => absurd w.1 (Nat.lt_irrefl _), fun _ => rfl⟩
  · obtain ⟨lo, hlo⟩ := hg.low
    obtain ⟨g1, g2, g3, g4⟩ := hlo y (by omega) hy
    show (bl y).toNatClampNeg ≤ x ↔ _
    rw [g1, nI_clamp (by omega)]
    constructor
    · intro q z hz1 hz2
      have := g4 (z + 1) (by omega) (by omega)
      rw [hbo (z + 1) (by omega) (by omega), Nat.add_sub_cancel] at this
      exact this
    · intro q
      refine Classical.byContradiction (fun w => ?_)
      rcases g3 with g3 | g3
      · omega
      · have := q (lo y - 1) (by omega) (by omega)
        rw [hbo (lo y) (by omega) (by omega)] at g3
        exact g3 this
  · rcases hat h1 h2 with ⟨a1, a2, a3, a4⟩ | ⟨a1, a2⟩
    · exact ⟨fun q => by omega, fun q => by omega⟩
    · exact ⟨fun _ => a2, fun _ => a1⟩
  · rcases hat (show 1 ≤ x + 1 by omega) (show x + 1 ≤ B by omega) with ⟨_, b2, _⟩ | ⟨_, b2⟩
    · rw [Nat.add_sub_cancel] at b2; omega
    · rw [Nat.add_sub_cancel] at b2; omega
end QI
