/-! the other calls -/
theorem lz_mi {mc n : Nat} (h : 1 ≤ mc) (hn : 1 ≤ n) : pm_mi n mc = max 1 (min n mc) := by
  unfold pm_mi
  split <;> omega
section LZ2
theorem lz_meas {mc lm mc2 lm2 mn mn2 : Nat} {ms ms2 me me2 : Nat → Int32} {k w : Int32} {P : Prop} (h : lz_m mc lm ms mn me)
    (a : if pm_ms mc k w then mc2 = k.toNatClampNeg ∧ lm2 = kg_n lm k.toNatClampNeg 256 ∧ (∀ j, j < lm → ¬ j = k.toNatClampNeg - 1 → ms2 j = ms j) ∧ ms2 (k.toNatClampNeg - 1) = w else P ∧ mc2 = mc ∧ lm2 = lm ∧ ms2 = ms)
    (g : if pm_ms mn k w then mn2 = k.toNatClampNeg ∧ me2 = upd me k.toNatClampNeg w else mn2 = mn ∧ me2 = me) : lz_m mc2 lm2 ms2 mn2 me2 := by
  obtain ⟨em, h1, h2, h3, hm⟩ := h
  rw [em] at g
  by_cases q : pm_ms mc k w
  · rw [if_pos q] at a g
    obtain ⟨a1, a2, a3, a4⟩ := a
    obtain ⟨g1, g2⟩ := g
    obtain ⟨_, k1, k2⟩ := kn_box1 (n := mc + 1) (by omega) q.1.1 q.1.2
    obtain ⟨_, _, k3⟩ := kn_box1 (n := 256) (by decide) q.1.1 q.2.1
    generalize k.toNatClampNeg = j9 at *
    refine ⟨by rw [g1, a1], by omega, ?_, ?_, ?_⟩
    · rw [a2]; unfold kg_n; split <;> omega
    · rw [a2]; unfold kg_n; split <;> omega
    · intro j hj
      rw [g2]
      by_cases e : j = j9 - 1
      · rw [e, a4, show j9 - 1 + 1 = j9 by omega, lz_ue]
      · rw [a3 j (by omega) e, lz_up (by omega)]
        exact hm j (by omega)
  · rw [if_neg q] at a g
    obtain ⟨_, a1, a2, a3⟩ := a
    obtain ⟨g1, g2⟩ := g
    rw [a1, a2, a3, g1, g2]
    exact ⟨rfl, h1, h2, h3, hm⟩
theorem lz_rule {ru ru2 ruM ruM2 : Nat → Int32} {w v : Int32} (h : lz_r ru ruM) (a : ru2 = if pm_rl w v then upd ru w.toNatClampNeg v else ru) (g : ruM2 = if pm_rl w v then upd ruM w.toNatClampNeg v else ruM) : lz_r ru2 ruM2 := by
  obtain ⟨hr, hb⟩ := h
  by_cases q : pm_rl w v
  · rw [if_pos q] at a g
    rw [a, g]
    obtain ⟨e, hw⟩ := kn_box (n := 8) (by decide) q.1.1 q.1.2
    refine ⟨fun k hk => ?_, fun k hk => ?_⟩
    · by_cases c : k = w.toNatClampNeg
      · rw [← c, lz_ue, lz_ue]
      · rw [lz_up c, lz_up c]; exact hr k hk
    · by_cases c : k = w.toNatClampNeg
      · rw [← c, lz_ue]
        rw [← c] at e
        have hm : pm_mo w = nI 10000 := by
          rw [e]
          rcases hk with z | z | z <;> subst z <;> decide +kernel
        have q1 := q.2.1
        have q2 := q.2.2
        rw [hm] at q1 q2
        rw [Int32.lt_iff_toInt_lt] at q1 q2
        rw [nI_toInt (by decide)] at q2
        rw [show (-nI 10000).toInt = -10000 by decide +kernel] at q1
        omega
      · rw [lz_up c]; exact hb k hk
  · rw [if_neg q] at a g
    rw [a, g]
    exact ⟨hr, hb⟩
theorem lz_le0 {x : Int32} (h : pm_in x (nI 0) (nI 3)) : (x ≤ 0) = (x = 0) := by
  obtain ⟨j, j1, rfl⟩ := lz_bx (n := 3) (by decide) h
  rcases (show j = 0 ∨ j = 1 ∨ j = 2 ∨ j = 3 by omega) with q | q | q | q <;> subst q <;> decide +kernel
theorem lz_skip {l0 l1 l2 l3 r0 r1 r2 r3 p0 p1 p2 p3 q0 q1 q2 q3 : Int64} {si si2 : Nat → Int32} {sd w st or_ sh : Int32} (h : lz_s l0 l1 l2 l3 r0 r1 r2 r3 si)
    (a : if pm_sp sd w st or_ sh then (if sd = 0 then (p0 = w.toInt64 ∧ p1 = (if or_ = 0 then st.toInt64 else 0) ∧ p2 = (if or_ = 0 then 0 else st.toInt64) ∧ p3 = sh.toInt64) ∧ (q0 = r0 ∧ q1 = r1 ∧ q2 = r2 ∧ q3 = r3) else (p0 = l0 ∧ p1 = l1 ∧ p2 = l2 ∧ p3 = l3) ∧ (q0 = w.toInt64 ∧ q1 = (if or_ = 0 then st.toInt64 else 0) ∧ q2 = (if or_ = 0 then 0 else st.toInt64) ∧ q3 = sh.toInt64)) else (p0 = l0 ∧ p1 = l1 ∧ p2 = l2 ∧ p3 = l3) ∧ (q0 = r0 ∧ q1 = r1 ∧ q2 = r2 ∧ q3 = r3))
    (g : si2 = if pm_sp sd w st or_ sh then upd (upd (upd (upd si (4 * sd.toNatClampNeg) w) (4 * sd.toNatClampNeg + 1) st) (4 * sd.toNatClampNeg + 2) or_) (4 * sd.toNatClampNeg + 3) sh else si) : lz_s p0 p1 p2 p3 q0 q1 q2 q3 si2 := by
  obtain ⟨a1, a2, a3, a4, b1, b2, b3, b4⟩ := h
  by_cases q : pm_sp sd w st or_ sh
  · rw [if_pos q] at a g
    have hle := lz_le0 q.2.2.2.1
    obtain ⟨j, hj, rfl⟩ := lz_bx (n := 1) (by decide) q.1
    rw [nI_clamp (by omega)] at g
    rcases (show j = 0 ∨ j = 1 by omega) with z | z <;> subst z
    · rw [if_pos (by decide)] at a
      obtain ⟨⟨c1, c2, c3, c4⟩, d1, d2, d3, d4⟩ := a
      have s0 : si2 0 = w := by rw [g]; rfl
      have s1 : si2 1 = st := by rw [g]; rfl
      have s2 : si2 2 = or_ := by rw [g]; rfl
      have s3 : si2 3 = sh := by rw [g]; rfl
      have s4 : si2 4 = si 4 := by rw [g]; rfl
      have s5 : si2 5 = si 5 := by rw [g]; rfl
      have s6 : si2 6 = si 6 := by rw [g]; rfl
      have s7 : si2 7 = si 7 := by rw [g]; rfl
      refine ⟨?_, ?_, ?_, ?_, ?_, ?_, ?_, ?_⟩
      · rw [s0]; exact c1
      · rw [s2, s1]; exact c2
      · rw [s2, s1]; simp only [hle]; exact c3
      · rw [s3]; exact c4
      · rw [s4, d1]; exact b1
      · rw [s6, s5, d2]; exact b2
      · rw [s6, s5, d3]; exact b3
      · rw [s7, d4]; exact b4
    · rw [if_neg (by decide)] at a
      obtain ⟨⟨d1, d2, d3, d4⟩, c1, c2, c3, c4⟩ := a
      have s0 : si2 0 = si 0 := by rw [g]; rfl
      have s1 : si2 1 = si 1 := by rw [g]; rfl
      have s2 : si2 2 = si 2 := by rw [g]; rfl
      have s3 : si2 3 = si 3 := by rw [g]; rfl
      have s4 : si2 4 = w := by rw [g]; rfl
      have s5 : si2 5 = st := by rw [g]; rfl
      have s6 : si2 6 = or_ := by rw [g]; rfl
      have s7 : si2 7 = sh := by rw [g]; rfl
      refine ⟨?_, ?_, ?_, ?_, ?_, ?_, ?_, ?_⟩
      · rw [s0, d1]; exact a1
      · rw [s2, s1, d2]; exact a2
      · rw [s2, s1, d3]; exact a3
      · rw [s3, d4]; exact a4
      · rw [s4]; exact c1
      · rw [s6, s5]; exact c2
      · rw [s6, s5]; simp only [hle]; exact c3
      · rw [s7]; exact c4
  · rw [if_neg q] at a g
    obtain ⟨⟨d1, d2, d3, d4⟩, c1, c2, c3, c4⟩ := a
    rw [g, d1, d2, d3, d4, c1, c2, c3, c4]
    exact ⟨a1, a2, a3, a4, b1, b2, b3, b4⟩
/-! line and about -/
theorem lz_kq {o : Int64} : (if o ≤ 2147483647 then o.toInt32 else nI 2147483647) = lz_k o := by
  unfold lz_k
  by_cases h : o < 2147483647
  · rw [if_pos h, if_pos (Int64.le_of_lt h)]
  · rw [if_neg h]
    by_cases e : o ≤ 2147483647
    · rw [if_pos e, Int64.le_antisymm e (Int64.not_lt.mp h)]
    · rw [if_neg e]; decide +kernel
theorem lz_line {mp ml mpM mlM ld : Nat} {mv mbM : Int32} {md mo mdM moM : Int64} {f0 f1 f2 f3 f4 mr : Nat → Int32} {mq : Nat → Int64} {k w : Int32} (h : lz_o mp ml mv md mo ld f0 f1 f2 f3 f4 mpM mlM mbM mdM moM mr mq) (hk : pm_in k (nI 1) (nI ml)) (hw : pm_in w (nI 0) (nI 4)) : pm_li mlM mr mq k w = pm_kl f0 f1 f2 f3 f4 k.toNatClampNeg w := by
  obtain ⟨_, k1, k2⟩ := kn_box1 (n := ml) (by have := h.h1; have := h.h2; omega) hk.1 hk.2
  obtain ⟨r0, r1, r2, r3, r4⟩ := h.hr k.toNatClampNeg k1 k2
  unfold pm_li pm_kl
  rw [h.e2, if_pos ⟨hk, hw⟩, lz_kq]
  obtain ⟨j, hj, rfl⟩ := lz_bx (n := 4) (by decide) hw
  generalize k.toNatClampNeg = kk at *
  rw [nI_clamp (by omega)]
  rcases (show j = 0 ∨ j = 1 ∨ j = 2 ∨ j = 3 ∨ j = 4 by omega) with z | z | z | z | z <;> subst z
  · rw [if_neg (by decide), if_pos rfl]; exact r0
  · rw [if_neg (by decide), if_neg (by decide), if_pos rfl, show 4 * kk - 4 + 1 = 4 * kk - 3 by omega]; exact r1
  · rw [if_neg (by decide), if_neg (by decide), if_neg (by decide), if_pos rfl, show 4 * kk - 4 + 2 = 4 * kk - 2 by omega]; exact r2
  · rw [if_neg (by decide), if_neg (by decide), if_neg (by decide), if_neg (by decide), if_pos rfl, show 4 * kk - 4 + 3 = 4 * kk - 1 by omega]; exact r3
  · rw [if_pos (by decide), if_neg (by decide), if_neg (by decide), if_neg (by decide), if_neg (by decide)]; exact r4
theorem lz_ao {mp ml mpM mlM ld cn cnM : Nat} {mv mbM : Int32} {md mo mdM moM : Int64} {f0 f1 f2 f3 f4 mr : Nat → Int32} {mq : Nat → Int64} {w : Int32} (h : lz_o mp ml mv md mo ld f0 f1 f2 f3 f4 mpM mlM mbM mdM moM mr mq) (e : cnM = cn) : pm_ao mp ml cn md mo mv w = pm_ao mpM mlM cnM mdM moM mbM w := by
  rw [h.e1, h.e2, h.e3, h.e4, h.e5, e]
end LZ2
