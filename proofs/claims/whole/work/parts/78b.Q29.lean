/-! lines: what the class is told, and that both find the same -/
section LZ3
variable {cn ln cnM mc lm mn : Nat} {ik ic ia ib if_ kd wd sr od sk ms me ru ruM si : Nat → Int32} {iw is_ ih ij : Nat → Int64} {l0 l1 l2 l3 r0 r1 r2 r3 : Int64}
theorem lz_ms (h : lz_m mc lm ms mn me) : ∀ n, 1 ≤ n → ms (max 1 (min n mc) - 1) = me (pm_mi n mn) := fun n hn => by
  have h1 := h.h1
  rw [h.em, lz_mi h1 hn, h.hm _ (by omega)]
  congr 1
  omega
theorem lz_au {p : Nat} : kb_p (1 < p) = 0 ↔ ¬ 1 < p := kb_0
theorem lz_B (h : lz_i cn ln ik ic ia ib if_ iw is_ ih ij cnM kd wd sr od sk) (p : Nat) : rl_B kd wd od cn p = pq_c (pk_br ik ic if_ cn (kb_p (1 < p))) cn + 1 := (qi_cnt h.hi lz_au).1
theorem lz_thr (h : lz_i cn ln ik ic ia ib if_ iw is_ ih ij cnM kd wd sr od sk) : pq_c (pm_br kd wd od cnM 2) (cnM + 1) = 1 + pq_c (pk_br ik ic if_ cn (nI 1)) cn := by
  have := (qi_cnt (ps := 2) (au := nI 1) h.hi (by decide)).1
  rw [h.ec, this]
  omega
theorem lz_pe (h : lz_i cn ln ik ic ia ib if_ iw is_ ih ij cnM kd wd sr od sk) (hR : lz_r ru ruM) {x : Nat} (hx : x ≤ cn) : (pm_pen kd wd od ruM cn x).toInt ≤ 10000 := by
  unfold pm_pen
  split
  · decide
  · split
    · rename_i h1 h2
      exact h.hp x (by omega) h2
    · split
      · split
        · exact (hR.hb 3 (Or.inl rfl)).2
        · exact (hR.hb 4 (Or.inr (Or.inl rfl))).2
      · decide
theorem lz_qn (h : lz_i cn ln ik ic ia ib if_ iw is_ ih ij cnM kd wd sr od sk) (hR : lz_r ru ruM) {p : Nat} (hB : rl_B kd wd od cn p ≤ 400) : qn_H kd wd od ruM cn (rl_B kd wd od cn p) (rl_r kd wd od cn p) := by
  refine ⟨?_, ?_, ?_, ?_⟩
  · exact Nat.le_trans h.h1 h.h2
  · exact hB
  · exact fun x hx => Nat.lt_succ_iff.mp (pq_p_spec (P := pm_br kd wd od cn p) (cn + 1) x hx).2.1
  · exact fun x hx => lz_pe h hR (Nat.lt_succ_iff.mp (pq_p_spec (P := pm_br kd wd od cn p) (cn + 1) x hx).2.1)
theorem lz_ql (hI : lz_i cn ln ik ic ia ib if_ iw is_ ih ij cnM kd wd sr od sk) (hM : lz_m mc lm ms mn me) (hR : lz_r ru ruM) (hS : lz_s l0 l1 l2 l3 r0 r1 r2 r3 si) {p B : Nat} {bi bo ba bb bg bl bh : Nat → Int32} (h1 : 1 ≤ p) (h3 : p ≤ 3) (hg : kg_out ik ic ia ib if_ ru cn (kb_p (1 < p)) B bi bo ba bb bg bl bh) (hB : B ≤ 400) :
    B = rl_B kd wd od cn p ∧ ql_H (⟨iw, is_, ih, ij, ba, bb, bo, bh, ms, ru, l0, l1, l2, l3, r0, r1, r2, r3, mc, B, p, (fun y => (bi y).toNatClampNeg), (fun x => (bg x).toNatClampNeg), (fun y => (bl y).toNatClampNeg)⟩ : kj_D) kd wd sr od sk ruM me si cn mn p (rl_r kd wd od cn p) B :=
  ⟨hg.cnt.trans (lz_B hI p).symm, ql_of hI.hi lz_au h1 h3 (Nat.le_trans hI.h1 hI.h2) hg hB hR.hr (lz_ms hM) hS.hl0 hS.hl1 hS.hl2 hS.hl3 hS.hr0 hS.hr1 hS.hr2 hS.hr3⟩
/-- the lines, once the first pass with a way and what is found in it are named -/
theorem lz_found (hI : lz_i cn ln ik ic ia ib if_ iw is_ ih ij cnM kd wd sr od sk) (hM : lz_m mc lm ms mn me) (hR : lz_r ru ruM) (hS : lz_s l0 l1 l2 l3 r0 r1 r2 r3 si) (hBB : ∀ p, p ≤ 3 → rl_B kd wd od cn p ≤ 400) {pe n0 GO NL zL : Nat} (hp1 : 1 ≤ pe) (hp3 : pe ≤ 3) (hW : lq_W (qm_X kd wd sr od sk ruM me si cn mn pe (rl_r kd wd od cn pe)) (rl_B kd wd od cn pe) (ruM 8).toInt n0 GO NL zL) :
    ∃ (SO : Int64) (SV : Int32) (SD : Int64) (E0 E1 E2 E3 E4 : Nat → Int32),
      (∀ (B9 : Nat) (bi9 bo9 ba9 bb9 bg9 bl9 bh9 : Nat → Int32), kg_out ik ic ia ib if_ ru cn (kb_p (1 < pe)) B9 bi9 bo9 ba9 bb9 bg9 bl9 bh9 → B9 ≤ 400 → lq_T (⟨iw, is_, ih, ij, ba9, bb9, bo9, bh9, ms, ru, l0, l1, l2, l3, r0, r1, r2, r3, mc, B9, pe, (fun y => (bi9 y).toNatClampNeg), (fun x => (bg9 x).toNatClampNeg), (fun y => (bl9 y).toNatClampNeg)⟩ : kj_D) (qm_X kd wd sr od sk ruM me si cn mn pe (rl_r kd wd od cn pe)) NL B9 zL SO SV SD E0 E1 E2 E3 E4) ∧
      ∀ (el2 ec2 : Nat) (eo2 : Int64) (eb2 : Int32) (ed2 : Int64) (mr2 : Nat → Int32) (mq2 : Nat → Int64), rl_way kd wd sr od sk ruM me si cn mn pe el2 ec2 (eo2, eb2, ed2) → (∀ k9, 1 ≤ k9 → k9 ≤ el2 → pn_row kd wd sr od sk ruM me si cn mn pe (rl_r kd wd od cn pe) el2 (rl_B kd wd od cn pe) ec2 mr2 mq2 k9) →
        el2 = NL ∧ eo2 = SO ∧ eb2 = SV ∧ ed2 = SD ∧ ∀ k, 1 ≤ k → k ≤ NL → mr2 (4 * k - 4) = E0 (k - 1) ∧ mr2 (4 * k - 3) = E1 (k - 1) ∧ mr2 (4 * k - 2) = E2 (k - 1) ∧ mr2 (4 * k - 1) = E3 (k - 1) ∧ lz_k (mq2 k) = E4 (k - 1) := by
  have hB4 := hBB pe hp3
  obtain ⟨hz, pw, ww, hx, hmin⟩ := hW.2.2.2.2.2.1
  obtain ⟨v, hv, _⟩ := qz_of hz hx hmin
  refine ⟨v.1, v.2.1, v.2.2, fun q => nI (qn_bg kd od (rl_r kd wd od cn pe) (qt_b (qr_X kd wd sr od sk ruM me si cn mn pe (rl_r kd wd od cn pe)) NL (rl_B kd wd od cn pe) zL q) (qt_b (qr_X kd wd sr od sk ruM me si cn mn pe (rl_r kd wd od cn pe)) NL (rl_B kd wd od cn pe) zL (q + 1))), fun q => nI (rl_r kd wd od cn pe (qt_b (qr_X kd wd sr od sk ruM me si cn mn pe (rl_r kd wd od cn pe)) NL (rl_B kd wd od cn pe) zL (q + 1) - 1)),
    fun q => qr_B kd wd sr od sk me si cn mn (rl_r kd wd od cn pe) (q + 1) (qt_b (qr_X kd wd sr od sk ruM me si cn mn pe (rl_r kd wd od cn pe)) NL (rl_B kd wd od cn pe) zL q) (qt_b (qr_X kd wd sr od sk ruM me si cn mn pe (rl_r kd wd od cn pe)) NL (rl_B kd wd od cn pe) zL (q + 1)), fun q => nI (qr_C kd wd sr od sk me si cn mn (rl_r kd wd od cn pe) (q + 1) (qt_b (qr_X kd wd sr od sk ruM me si cn mn pe (rl_r kd wd od cn pe)) NL (rl_B kd wd od cn pe) zL q) (qt_b (qr_X kd wd sr od sk ruM me si cn mn pe (rl_r kd wd od cn pe)) NL (rl_B kd wd od cn pe) zL (q + 1))),
    fun q => lz_k (qr_O kd wd sr od sk me si cn mn (rl_r kd wd od cn pe) (q + 1) (qt_b (qr_X kd wd sr od sk ruM me si cn mn pe (rl_r kd wd od cn pe)) NL (rl_B kd wd od cn pe) zL q) (qt_b (qr_X kd wd sr od sk ruM me si cn mn pe (rl_r kd wd od cn pe)) NL (rl_B kd wd od cn pe) zL (q + 1))), ?_, ?_⟩
  · intro B9 bi9 bo9 ba9 bb9 bg9 bl9 bh9 hg hB9
    obtain ⟨e, hq⟩ := lz_ql hI hM hR hS hp1 hp3 hg hB9
    subst e
    exact lq_Tof hB4 hq hv.2.1 (fun q _ => ⟨rfl, rfl, rfl, rfl, rfl⟩)
  · intro el2 ec2 eo2 eb2 ed2 mr2 mq2 hwy hrow
    obtain ⟨e1, e2⟩ := rk_same hB4 hwy hW.1 hW.2.1 hW.2.2.1 hW.2.2.2.1 hW.2.2.2.2.1 hW.2.2.2.2.2.1
    subst e1; subst e2
    obtain ⟨_, ev⟩ := qz_uni hv hwy.2.2.1
    refine ⟨rfl, by rw [ev], by rw [ev], by rw [ev], fun k k1 k2 => ?_⟩
    obtain ⟨a0, a1, a2, a3, a4⟩ := hrow k k1 k2
    have ek : k - 1 + 1 = k := by omega
    simp only [ek]
    rw [a0, a1, a2, a3, a4]
    exact ⟨rfl, rfl, rfl, rfl, rfl⟩
/-- all that lines of the class is told -/
theorem lz_lines (hI : lz_i cn ln ik ic ia ib if_ iw is_ ih ij cnM kd wd sr od sk) (hM : lz_m mc lm ms mn me) (hR : lz_r ru ruM) (hS : lz_s l0 l1 l2 l3 r0 r1 r2 r3 si) (hNB : 1 + pq_c (pk_br ik ic if_ cn (nI 1)) cn ≤ 400) :
    ∃ (QX : Nat → Nat → Nat → Nat → Option (Nat × qx_V)) (pe n0 GO NL zL : Nat) (SO : Int64) (SV : Int32) (SD : Int64) (E0 E1 E2 E3 E4 : Nat → Int32), (rl_f (ru 0) ≤ pe ∧ pe ≤ 3 ∧ NL ≤ 400) ∧
      (∀ p9, 1 ≤ p9 → p9 ≤ 3 → ∀ (B9 : Nat) (bi9 bo9 ba9 bb9 bg9 bl9 bh9 : Nat → Int32), kg_out ik ic ia ib if_ ru cn (kb_p (1 < p9)) B9 bi9 bo9 ba9 bb9 bg9 bl9 bh9 → B9 ≤ 400 → kw_Q (⟨iw, is_, ih, ij, ba9, bb9, bo9, bh9, ms, ru, l0, l1, l2, l3, r0, r1, r2, r3, mc, B9, p9, (fun y => (bi9 y).toNatClampNeg), (fun x => (bg9 x).toNatClampNeg), (fun y => (bl9 y).toNatClampNeg)⟩ : kj_D) B9 (QX p9)) ∧
      (∀ p9, rl_f (ru 0) ≤ p9 → p9 < pe → ∀ n9 z9, 1 ≤ n9 → z9 < 4 → QX p9 n9 (pq_c (pk_br ik ic if_ cn (kb_p (1 < p9))) cn + 1) z9 = none) ∧
      lq_W (QX pe) (pq_c (pk_br ik ic if_ cn (kb_p (1 < pe))) cn + 1) (ru 8).toInt n0 GO NL zL ∧
      (∀ (B9 : Nat) (bi9 bo9 ba9 bb9 bg9 bl9 bh9 : Nat → Int32), kg_out ik ic ia ib if_ ru cn (kb_p (1 < pe)) B9 bi9 bo9 ba9 bb9 bg9 bl9 bh9 → B9 ≤ 400 → lq_T (⟨iw, is_, ih, ij, ba9, bb9, bo9, bh9, ms, ru, l0, l1, l2, l3, r0, r1, r2, r3, mc, B9, pe, (fun y => (bi9 y).toNatClampNeg), (fun x => (bg9 x).toNatClampNeg), (fun y => (bl9 y).toNatClampNeg)⟩ : kj_D) (QX pe) NL B9 zL SO SV SD E0 E1 E2 E3 E4) ∧
      ∀ (ps2 el2 ec2 : Nat) (eo2 : Int64) (eb2 : Int32) (ed2 : Int64) (mr2 : Nat → Int32) (mq2 : Nat → Int64), rl_f (ruM 0) ≤ ps2 → ps2 ≤ 3 → (∀ p9, rl_f (ruM 0) ≤ p9 → p9 < ps2 → rl_no kd wd sr od sk ruM me si cnM mn p9) → rl_way kd wd sr od sk ruM me si cnM mn ps2 el2 ec2 (eo2, eb2, ed2) → (∀ k9, 1 ≤ k9 → k9 ≤ el2 → pn_row kd wd sr od sk ruM me si cnM mn ps2 (rl_r kd wd od cnM ps2) el2 (rl_B kd wd od cnM ps2) ec2 mr2 mq2 k9) →
        ps2 = pe ∧ el2 = NL ∧ eo2 = SO ∧ eb2 = SV ∧ ed2 = SD ∧ ∀ k, 1 ≤ k → k ≤ NL → mr2 (4 * k - 4) = E0 (k - 1) ∧ mr2 (4 * k - 3) = E1 (k - 1) ∧ mr2 (4 * k - 2) = E2 (k - 1) ∧ mr2 (4 * k - 1) = E3 (k - 1) ∧ lz_k (mq2 k) = E4 (k - 1) := by
  have ec := hI.ec
  subst ec
  have hBB : ∀ p, p ≤ 3 → rl_B kd wd od cnM p ≤ 400 := fun p hp => by
    refine Nat.le_trans (rl_le hp) ?_
    have := lz_thr hI
    unfold rl_B
    omega
  have hf : 1 ≤ rl_f (ruM 0) ∧ rl_f (ruM 0) ≤ 3 := by unfold rl_f; split <;> omega
  have e0 := hR.hr 0 (by decide)
  have e8 := hR.hr 8 (by decide)
  rw [e0, e8]
  obtain ⟨pe, a1, a2, a3, a4⟩ := lq_pass (sr := sr) (sk := sk) (ru := ruM) (me := me) (si := si) (mn := mn) hBB hf.2
  obtain ⟨n0, GO, NL, zL, hW⟩ := lq_find (q := (ruM 8).toInt) (hBB pe a2) a4
  obtain ⟨SO, SV, SD, E0, E1, E2, E3, E4, b1, b2⟩ := lz_found hI hM hR hS hBB (by omega) a2 hW
  refine ⟨fun p => qm_X kd wd sr od sk ruM me si cnM mn p (rl_r kd wd od cnM p), pe, n0, GO, NL, zL, SO, SV, SD, E0, E1, E2, E3, E4, ⟨a1, a2, ?_⟩, ?_, ?_, ?_, b1, ?_⟩
  · have := hBB pe a2
    have := hW.2.2.2.2.1
    omega
  · intro p9 h1 h3 B9 bi9 bo9 ba9 bb9 bg9 bl9 bh9 hg hB9
    obtain ⟨e, hq⟩ := lz_ql hI hM hR hS h1 h3 hg hB9
    subst e
    exact lq_Q hq (lz_qn hI hR (hBB p9 h3)) rl_B1 hM.h1
  · intro p9 h1 h2 n9 z9 h3 h4
    rw [← lz_B hI]
    exact rk_no.mp (a3 p9 h1 h2) n9 z9 h3 h4
  · rw [← lz_B hI]
    exact hW
  · intro ps2 el2 ec2 eo2 eb2 ed2 mr2 mq2 c1 c2 c3 c4 c5
    have e : ps2 = pe := by
      rcases Nat.lt_trichotomy ps2 pe with q | q | q
      · exact absurd (a3 ps2 c1 q) (rk_some c4)
      · exact q
      · exact absurd (c3 pe a1 q) a4
    subst e
    exact ⟨rfl, b2 el2 ec2 eo2 eb2 ed2 mr2 mq2 c4 c5⟩
end LZ3
