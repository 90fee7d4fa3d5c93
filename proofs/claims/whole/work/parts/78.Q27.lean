/-! what the class's state and the reference's have in common -/
abbrev lz_i (cn ln : Nat) (ik ic ia ib fl : Nat → Int32) (iw is_ ih ij : Nat → Int64) (cnM : Nat) (kd wd sr od sk : Nat → Int32) : Prop := (cnM = cn) ∧ (cn ≤ ln) ∧ (ln ≤ 4096) ∧ (qi_H ik ic ia ib fl kd wd sr od sk iw is_ ih ij cn) ∧ (∀ x, x < cn → kd x = nI 1 → ∃ j, j ≤ 3 ∧ od x = nI j) ∧ (∀ x, x < cn → kd x = nI 3 → (wd x).toInt ≤ 10000)
theorem lz_i.ec {cn ln : Nat} {ik ic ia ib fl : Nat → Int32} {iw is_ ih ij : Nat → Int64} {cnM : Nat} {kd wd sr od sk : Nat → Int32} (h : lz_i cn ln ik ic ia ib fl iw is_ ih ij cnM kd wd sr od sk) : cnM = cn := h.1
theorem lz_i.h1 {cn ln : Nat} {ik ic ia ib fl : Nat → Int32} {iw is_ ih ij : Nat → Int64} {cnM : Nat} {kd wd sr od sk : Nat → Int32} (h : lz_i cn ln ik ic ia ib fl iw is_ ih ij cnM kd wd sr od sk) : cn ≤ ln := h.2.1
theorem lz_i.h2 {cn ln : Nat} {ik ic ia ib fl : Nat → Int32} {iw is_ ih ij : Nat → Int64} {cnM : Nat} {kd wd sr od sk : Nat → Int32} (h : lz_i cn ln ik ic ia ib fl iw is_ ih ij cnM kd wd sr od sk) : ln ≤ 4096 := h.2.2.1
theorem lz_i.hi {cn ln : Nat} {ik ic ia ib fl : Nat → Int32} {iw is_ ih ij : Nat → Int64} {cnM : Nat} {kd wd sr od sk : Nat → Int32} (h : lz_i cn ln ik ic ia ib fl iw is_ ih ij cnM kd wd sr od sk) : qi_H ik ic ia ib fl kd wd sr od sk iw is_ ih ij cn := h.2.2.2.1
theorem lz_i.hg {cn ln : Nat} {ik ic ia ib fl : Nat → Int32} {iw is_ ih ij : Nat → Int64} {cnM : Nat} {kd wd sr od sk : Nat → Int32} (h : lz_i cn ln ik ic ia ib fl iw is_ ih ij cnM kd wd sr od sk) : ∀ x, x < cn → kd x = nI 1 → ∃ j, j ≤ 3 ∧ od x = nI j := h.2.2.2.2.1
theorem lz_i.hp {cn ln : Nat} {ik ic ia ib fl : Nat → Int32} {iw is_ ih ij : Nat → Int64} {cnM : Nat} {kd wd sr od sk : Nat → Int32} (h : lz_i cn ln ik ic ia ib fl iw is_ ih ij cnM kd wd sr od sk) : ∀ x, x < cn → kd x = nI 3 → (wd x).toInt ≤ 10000 := h.2.2.2.2.2
abbrev lz_m (mc lm : Nat) (ms : Nat → Int32) (mn : Nat) (me : Nat → Int32) : Prop := (mn = mc) ∧ (1 ≤ mc) ∧ (mc ≤ lm) ∧ (lm ≤ 256) ∧ (∀ j, j < mc → ms j = me (j + 1))
theorem lz_m.em {mc lm : Nat} {ms : Nat → Int32} {mn : Nat} {me : Nat → Int32} (h : lz_m mc lm ms mn me) : mn = mc := h.1
theorem lz_m.h1 {mc lm : Nat} {ms : Nat → Int32} {mn : Nat} {me : Nat → Int32} (h : lz_m mc lm ms mn me) : 1 ≤ mc := h.2.1
theorem lz_m.h2 {mc lm : Nat} {ms : Nat → Int32} {mn : Nat} {me : Nat → Int32} (h : lz_m mc lm ms mn me) : mc ≤ lm := h.2.2.1
theorem lz_m.h3 {mc lm : Nat} {ms : Nat → Int32} {mn : Nat} {me : Nat → Int32} (h : lz_m mc lm ms mn me) : lm ≤ 256 := h.2.2.2.1
theorem lz_m.hm {mc lm : Nat} {ms : Nat → Int32} {mn : Nat} {me : Nat → Int32} (h : lz_m mc lm ms mn me) : ∀ j, j < mc → ms j = me (j + 1) := h.2.2.2.2
abbrev lz_r (ru ruM : Nat → Int32) : Prop := (∀ k, k < 9 → ru k = ruM k) ∧ (∀ k, k = 3 ∨ k = 4 ∨ k = 8 → -10000 ≤ (ruM k).toInt ∧ (ruM k).toInt ≤ 10000)
theorem lz_r.hr {ru ruM : Nat → Int32} (h : lz_r ru ruM) : ∀ k, k < 9 → ru k = ruM k := h.1
theorem lz_r.hb {ru ruM : Nat → Int32} (h : lz_r ru ruM) : ∀ k, k = 3 ∨ k = 4 ∨ k = 8 → -10000 ≤ (ruM k).toInt ∧ (ruM k).toInt ≤ 10000 := h.2
abbrev lz_s (l0 l1 l2 l3 r0 r1 r2 r3 : Int64) (si : Nat → Int32) : Prop := (l0 = (si 0).toInt64) ∧ (l1 = if si 2 = 0 then (si 1).toInt64 else 0) ∧ (l2 = if si 2 ≤ 0 then 0 else (si 1).toInt64) ∧ (l3 = (si 3).toInt64) ∧ (r0 = (si 4).toInt64) ∧ (r1 = if si 6 = 0 then (si 5).toInt64 else 0) ∧ (r2 = if si 6 ≤ 0 then 0 else (si 5).toInt64) ∧ (r3 = (si 7).toInt64)
theorem lz_s.hl0 {l0 l1 l2 l3 r0 r1 r2 r3 : Int64} {si : Nat → Int32} (h : lz_s l0 l1 l2 l3 r0 r1 r2 r3 si) : l0 = (si 0).toInt64 := h.1
theorem lz_s.hl1 {l0 l1 l2 l3 r0 r1 r2 r3 : Int64} {si : Nat → Int32} (h : lz_s l0 l1 l2 l3 r0 r1 r2 r3 si) : l1 = if si 2 = 0 then (si 1).toInt64 else 0 := h.2.1
theorem lz_s.hl2 {l0 l1 l2 l3 r0 r1 r2 r3 : Int64} {si : Nat → Int32} (h : lz_s l0 l1 l2 l3 r0 r1 r2 r3 si) : l2 = if si 2 ≤ 0 then 0 else (si 1).toInt64 := h.2.2.1
theorem lz_s.hl3 {l0 l1 l2 l3 r0 r1 r2 r3 : Int64} {si : Nat → Int32} (h : lz_s l0 l1 l2 l3 r0 r1 r2 r3 si) : l3 = (si 3).toInt64 := h.2.2.2.1
theorem lz_s.hr0 {l0 l1 l2 l3 r0 r1 r2 r3 : Int64} {si : Nat → Int32} (h : lz_s l0 l1 l2 l3 r0 r1 r2 r3 si) : r0 = (si 4).toInt64 := h.2.2.2.2.1
theorem lz_s.hr1 {l0 l1 l2 l3 r0 r1 r2 r3 : Int64} {si : Nat → Int32} (h : lz_s l0 l1 l2 l3 r0 r1 r2 r3 si) : r1 = if si 6 = 0 then (si 5).toInt64 else 0 := h.2.2.2.2.2.1
theorem lz_s.hr2 {l0 l1 l2 l3 r0 r1 r2 r3 : Int64} {si : Nat → Int32} (h : lz_s l0 l1 l2 l3 r0 r1 r2 r3 si) : r2 = if si 6 ≤ 0 then 0 else (si 5).toInt64 := h.2.2.2.2.2.2.1
theorem lz_s.hr3 {l0 l1 l2 l3 r0 r1 r2 r3 : Int64} {si : Nat → Int32} (h : lz_s l0 l1 l2 l3 r0 r1 r2 r3 si) : r3 = (si 7).toInt64 := h.2.2.2.2.2.2.2
def lz_k (o : Int64) : Int32 := (if o < 2147483647 then o else 2147483647).toInt32
abbrev lz_o (mp ml : Nat) (mv : Int32) (md mo : Int64) (ld : Nat) (f0 f1 f2 f3 f4 : Nat → Int32) (mpM mlM : Nat) (mbM : Int32) (mdM moM : Int64) (mr : Nat → Int32) (mq : Nat → Int64) : Prop := (mpM = mp) ∧ (mlM = ml) ∧ (mbM = mv) ∧ (mdM = md) ∧ (moM = mo) ∧ (ml ≤ ld) ∧ (ld ≤ 400) ∧ (∀ k, 1 ≤ k → k ≤ ml → mr (4 * k - 4) = f0 (k - 1) ∧ mr (4 * k - 3) = f1 (k - 1) ∧ mr (4 * k - 2) = f2 (k - 1) ∧ mr (4 * k - 1) = f3 (k - 1) ∧ lz_k (mq k) = f4 (k - 1))
theorem lz_o.e1 {mp ml : Nat} {mv : Int32} {md mo : Int64} {ld : Nat} {f0 f1 f2 f3 f4 : Nat → Int32} {mpM mlM : Nat} {mbM : Int32} {mdM moM : Int64} {mr : Nat → Int32} {mq : Nat → Int64} (h : lz_o mp ml mv md mo ld f0 f1 f2 f3 f4 mpM mlM mbM mdM moM mr mq) : mpM = mp := h.1
theorem lz_o.e2 {mp ml : Nat} {mv : Int32} {md mo : Int64} {ld : Nat} {f0 f1 f2 f3 f4 : Nat → Int32} {mpM mlM : Nat} {mbM : Int32} {mdM moM : Int64} {mr : Nat → Int32} {mq : Nat → Int64} (h : lz_o mp ml mv md mo ld f0 f1 f2 f3 f4 mpM mlM mbM mdM moM mr mq) : mlM = ml := h.2.1
theorem lz_o.e3 {mp ml : Nat} {mv : Int32} {md mo : Int64} {ld : Nat} {f0 f1 f2 f3 f4 : Nat → Int32} {mpM mlM : Nat} {mbM : Int32} {mdM moM : Int64} {mr : Nat → Int32} {mq : Nat → Int64} (h : lz_o mp ml mv md mo ld f0 f1 f2 f3 f4 mpM mlM mbM mdM moM mr mq) : mbM = mv := h.2.2.1
theorem lz_o.e4 {mp ml : Nat} {mv : Int32} {md mo : Int64} {ld : Nat} {f0 f1 f2 f3 f4 : Nat → Int32} {mpM mlM : Nat} {mbM : Int32} {mdM moM : Int64} {mr : Nat → Int32} {mq : Nat → Int64} (h : lz_o mp ml mv md mo ld f0 f1 f2 f3 f4 mpM mlM mbM mdM moM mr mq) : mdM = md := h.2.2.2.1
theorem lz_o.e5 {mp ml : Nat} {mv : Int32} {md mo : Int64} {ld : Nat} {f0 f1 f2 f3 f4 : Nat → Int32} {mpM mlM : Nat} {mbM : Int32} {mdM moM : Int64} {mr : Nat → Int32} {mq : Nat → Int64} (h : lz_o mp ml mv md mo ld f0 f1 f2 f3 f4 mpM mlM mbM mdM moM mr mq) : moM = mo := h.2.2.2.2.1
theorem lz_o.h1 {mp ml : Nat} {mv : Int32} {md mo : Int64} {ld : Nat} {f0 f1 f2 f3 f4 : Nat → Int32} {mpM mlM : Nat} {mbM : Int32} {mdM moM : Int64} {mr : Nat → Int32} {mq : Nat → Int64} (h : lz_o mp ml mv md mo ld f0 f1 f2 f3 f4 mpM mlM mbM mdM moM mr mq) : ml ≤ ld := h.2.2.2.2.2.1
theorem lz_o.h2 {mp ml : Nat} {mv : Int32} {md mo : Int64} {ld : Nat} {f0 f1 f2 f3 f4 : Nat → Int32} {mpM mlM : Nat} {mbM : Int32} {mdM moM : Int64} {mr : Nat → Int32} {mq : Nat → Int64} (h : lz_o mp ml mv md mo ld f0 f1 f2 f3 f4 mpM mlM mbM mdM moM mr mq) : ld ≤ 400 := h.2.2.2.2.2.2.1
theorem lz_o.hr {mp ml : Nat} {mv : Int32} {md mo : Int64} {ld : Nat} {f0 f1 f2 f3 f4 : Nat → Int32} {mpM mlM : Nat} {mbM : Int32} {mdM moM : Int64} {mr : Nat → Int32} {mq : Nat → Int64} (h : lz_o mp ml mv md mo ld f0 f1 f2 f3 f4 mpM mlM mbM mdM moM mr mq) : ∀ k, 1 ≤ k → k ≤ ml → mr (4 * k - 4) = f0 (k - 1) ∧ mr (4 * k - 3) = f1 (k - 1) ∧ mr (4 * k - 2) = f2 (k - 1) ∧ mr (4 * k - 1) = f3 (k - 1) ∧ lz_k (mq k) = f4 (k - 1) := h.2.2.2.2.2.2.2
abbrev lz_q (lk lt lw zb zn zs zl : Nat) (bg bb bh : Nat → Int32) : Prop := (lq_b lk lt lw zb zn) ∧ (zs = 1) ∧ (zl = 1) ∧ (bg 0 = nI 0 ∧ bb 0 = nI 0 ∧ bh 0 = nI 0)
theorem lz_q.hb {lk lt lw zb zn zs zl : Nat} {bg bb bh : Nat → Int32} (h : lz_q lk lt lw zb zn zs zl bg bb bh) : lq_b lk lt lw zb zn := h.1
theorem lz_q.hs {lk lt lw zb zn zs zl : Nat} {bg bb bh : Nat → Int32} (h : lz_q lk lt lw zb zn zs zl bg bb bh) : zs = 1 := h.2.1
theorem lz_q.hl {lk lt lw zb zn zs zl : Nat} {bg bb bh : Nat → Int32} (h : lz_q lk lt lw zb zn zs zl bg bb bh) : zl = 1 := h.2.2.1
theorem lz_q.hf {lk lt lw zb zn zs zl : Nat} {bg bb bh : Nat → Int32} (h : lz_q lk lt lw zb zn zs zl bg bb bh) : bg 0 = nI 0 ∧ bb 0 = nI 0 ∧ bh 0 = nI 0 := h.2.2.2
section LZ1
variable {cn ln ln2 cnM : Nat} {ik ic ia ib fl ik2 ic2 ia2 ib2 fl2 : Nat → Int32} {iw is_ ih ij iw2 is_2 ih2 ij2 : Nat → Int64} {kd wd sr od sk kd2 wd2 sr2 od2 sk2 : Nat → Int32}
theorem lz_i0 (hl : ln ≤ 4096) : lz_i 0 ln ik ic ia ib fl iw is_ ih ij 0 kd wd sr od sk := by
  refine ⟨?_, ?_, ?_, ?_, ?_, ?_⟩
  · exact rfl
  · exact Nat.zero_le _
  · exact hl
  · exact ⟨fun _ h => absurd h (by omega), fun _ h => absurd h (by omega), fun _ h => absurd h (by omega), fun _ h => absurd h (by omega), fun _ h => absurd h (by omega), fun _ h => absurd h (by omega), fun _ h => absurd h (by omega)⟩
  · exact fun _ h => absurd h (by omega)
  · exact fun _ h => absurd h (by omega)
theorem lz_up {f : Nat → Int32} {k j : Nat} {x : Int32} (h : ¬ j = k) : upd f k x j = f j := if_neg h
theorem lz_ue {f : Nat → Int32} {k : Nat} {x : Int32} : upd f k x k = x := if_pos rfl
theorem lz_itn {c i k : Nat} {K x1 x2 x3 x4 : Int32} (h : ¬ i = c) : pm_it (upd kd c K) (upd wd c x1) (upd sr c x2) (upd od c x3) (upd sk c x4) i k = pm_it kd wd sr od sk i k := by
  unfold pm_it
  rw [lz_up h, lz_up h, lz_up h, lz_up h, lz_up h]
theorem lz_itc {c k : Nat} {K x1 x2 x3 x4 : Int32} : pm_it (upd kd c K) (upd wd c x1) (upd sr c x2) (upd od c x3) (upd sk c x4) c k = pm_it (fun _ => K) (fun _ => x1) (fun _ => x2) (fun _ => x3) (fun _ => x4) 0 k := by
  unfold pm_it
  rw [lz_ue, lz_ue, lz_ue, lz_ue, lz_ue]
theorem lz_add {K x1 x2 x3 x4 : Int32} (h : lz_i cn ln ik ic ia ib fl iw is_ ih ij cnM kd wd sr od sk) (hc : cn < 4096) (a1 : ln2 = kg_n ln (cn + 1) 4096) (a2 : ∀ j, j < cn → ik2 j = ik j ∧ ic2 j = ic j ∧ ia2 j = ia j ∧ ib2 j = ib j ∧ fl2 j = fl j) (a3 : ik2 cn = K) (a4 : ∀ j, j < cn + 1 → iw2 j = iw j ∧ is_2 j = is_ j ∧ ih2 j = ih j ∧ ij2 j = ij j)
    (b0 : iw2 (cn + 1) = iw cn + pm_it (fun _ => K) (fun _ => x1) (fun _ => x2) (fun _ => x3) (fun _ => x4) 0 0) (b1 : is_2 (cn + 1) = is_ cn + pm_it (fun _ => K) (fun _ => x1) (fun _ => x2) (fun _ => x3) (fun _ => x4) 0 1) (b2 : ih2 (cn + 1) = ih cn + (pm_it (fun _ => K) (fun _ => x1) (fun _ => x2) (fun _ => x3) (fun _ => x4) 0 2 + pm_it (fun _ => K) (fun _ => x1) (fun _ => x2) (fun _ => x3) (fun _ => x4) 0 3 + pm_it (fun _ => K) (fun _ => x1) (fun _ => x2) (fun _ => x3) (fun _ => x4) 0 4)) (b3 : ij2 (cn + 1) = ij cn + pm_it (fun _ => K) (fun _ => x1) (fun _ => x2) (fun _ => x3) (fun _ => x4) 0 5)
    (g1 : kd2 = upd kd cnM K) (g2 : wd2 = upd wd cnM x1) (g3 : sr2 = upd sr cnM x2) (g4 : od2 = upd od cnM x3) (g5 : sk2 = upd sk cnM x4) (c3 : K = nI 3 → ic2 cn = x1 ∧ x1.toInt ≤ 10000) (c4 : K = nI 4 → fl2 cn = x3 ∧ ia2 cn = x2 ∧ ib2 cn = x4 ∧ ∃ j, j < 8 ∧ x3 = nI j) (c1 : K = nI 1 → ∃ j, j ≤ 3 ∧ x3 = nI j) : lz_i (cn + 1) ln2 ik2 ic2 ia2 ib2 fl2 iw2 is_2 ih2 ij2 (cnM + 1) kd2 wd2 sr2 od2 sk2 := by
  obtain ⟨ec, h1, h2, hi, hg, hp⟩ := h
  rw [ec] at g1 g2 g3 g4 g5
  subst g1; subst g2; subst g3; subst g4; subst g5
  have key : ∀ x, x < cn + 1 → x < cn ∧ ¬ x = cn ∨ x = cn := fun x hx => by omega
  refine ⟨by rw [ec], ?_, ?_, ⟨?_, ?_, ?_, ?_, ?_, ?_, ?_⟩, ?_, ?_⟩
  · rw [a1]; unfold kg_n; split <;> omega
  · rw [a1]; unfold kg_n; split <;> omega
  · intro x hx
    rcases key x hx with ⟨q, n⟩ | q
    · rw [lz_up n, (a2 x q).1]; exact hi.hkd x q
    · rw [q, lz_ue, a3]
  · intro x hx hk
    rcases key x hx with ⟨q, n⟩ | q
    · rw [lz_up n] at hk
      rw [lz_up n, (a2 x q).2.1]; exact hi.hpe x q hk
    · rw [q, lz_ue] at hk
      rw [q, lz_ue]; exact (c3 hk).1
  · intro x hx hk
    rcases key x hx with ⟨q, n⟩ | q
    · rw [lz_up n] at hk
      rw [lz_up n, lz_up n, lz_up n, (a2 x q).2.2.2.2, (a2 x q).2.2.1, (a2 x q).2.2.2.1]; exact hi.hcu x q hk
    · rw [q, lz_ue] at hk
      rw [q, lz_ue, lz_ue, lz_ue]; exact c4 hk
  · intro x hx
    rcases key x hx with ⟨q, n⟩ | q
    · rw [lz_itn n, (a4 (x + 1) (by omega)).1, (a4 x (by omega)).1]; exact hi.hiw x q
    · rw [q, lz_itc, (a4 cn (by omega)).1]; exact b0
  · intro x hx
    rcases key x hx with ⟨q, n⟩ | q
    · rw [lz_itn n, (a4 (x + 1) (by omega)).2.1, (a4 x (by omega)).2.1]; exact hi.his x q
    · rw [q, lz_itc, (a4 cn (by omega)).2.1]; exact b1
  · intro x hx
    rcases key x hx with ⟨q, n⟩ | q
    · rw [lz_itn n, lz_itn n, lz_itn n, (a4 (x + 1) (by omega)).2.2.1, (a4 x (by omega)).2.2.1]; exact hi.hih x q
    · rw [q, lz_itc, lz_itc, lz_itc, (a4 cn (by omega)).2.2.1]; exact b2
  · intro x hx
    rcases key x hx with ⟨q, n⟩ | q
    · rw [lz_itn n, (a4 (x + 1) (by omega)).2.2.2, (a4 x (by omega)).2.2.2]; exact hi.hij x q
    · rw [q, lz_itc, (a4 cn (by omega)).2.2.2]; exact b3
  · intro x hx hk
    rcases key x hx with ⟨q, n⟩ | q
    · rw [lz_up n] at hk
      rw [lz_up n]; exact hg x q hk
    · rw [q, lz_ue] at hk
      rw [q, lz_ue]; exact c1 hk
  · intro x hx hk
    rcases key x hx with ⟨q, n⟩ | q
    · rw [lz_up n] at hk
      rw [lz_up n]; exact hp x q hk
    · rw [q, lz_ue] at hk
      rw [q, lz_ue]; exact (c3 hk).2
theorem lz_no {c1 c2 : Int32} {P : Prop} (h : ¬ c1 = c2) (e : c1 = c2) : P := absurd e h
theorem lz_box {w : Int32} (h : lz_i cn ln ik ic ia ib fl iw is_ ih ij cnM kd wd sr od sk) (hc : cn < 4096)
    (a : ln2 = kg_n ln (cn + 1) 4096 ∧ (∀ j, j < cn → ik2 j = ik j ∧ ic2 j = ic j ∧ ia2 j = ia j ∧ ib2 j = ib j ∧ fl2 j = fl j) ∧ ik2 cn = nI 0 ∧ (∀ j, j < cn + 1 → iw2 j = iw j ∧ is_2 j = is_ j ∧ ih2 j = ih j ∧ ij2 j = ij j) ∧ iw2 (cn + 1) = iw cn + w.toInt64 ∧ is_2 (cn + 1) = is_ cn ∧ ih2 (cn + 1) = ih cn ∧ ij2 (cn + 1) = ij cn)
    (g : kd2 = upd kd cnM (nI 0) ∧ wd2 = upd wd cnM w ∧ sr2 = upd sr cnM (nI 0) ∧ od2 = upd od cnM (nI 0) ∧ sk2 = upd sk cnM (nI 0)) : lz_i (cn + 1) ln2 ik2 ic2 ia2 ib2 fl2 iw2 is_2 ih2 ij2 (cnM + 1) kd2 wd2 sr2 od2 sk2 := by
  obtain ⟨a1, a2, a3, a4, a5, a6, a7, a8⟩ := a
  obtain ⟨g1, g2, g3, g4, g5⟩ := g
  refine lz_add h hc a1 a2 a3 a4 ?_ ?_ ?_ ?_ g1 g2 g3 g4 g5 (lz_no (by decide)) (lz_no (by decide)) (lz_no (by decide))
  · exact a5
  · rw [a6]; exact (Int64.add_zero _).symm
  · rw [a7]; exact (Int64.add_zero _).symm
  · rw [a8]; exact (Int64.add_zero _).symm
theorem lz_kern {w : Int32} (h : lz_i cn ln ik ic ia ib fl iw is_ ih ij cnM kd wd sr od sk) (hc : cn < 4096)
    (a : ln2 = kg_n ln (cn + 1) 4096 ∧ (∀ j, j < cn → ik2 j = ik j ∧ ic2 j = ic j ∧ ia2 j = ia j ∧ ib2 j = ib j ∧ fl2 j = fl j) ∧ ik2 cn = nI 2 ∧ (∀ j, j < cn + 1 → iw2 j = iw j ∧ is_2 j = is_ j ∧ ih2 j = ih j ∧ ij2 j = ij j) ∧ iw2 (cn + 1) = iw cn + w.toInt64 ∧ is_2 (cn + 1) = is_ cn ∧ ih2 (cn + 1) = ih cn ∧ ij2 (cn + 1) = ij cn)
    (g : kd2 = upd kd cnM (nI 2) ∧ wd2 = upd wd cnM w ∧ sr2 = upd sr cnM (nI 0) ∧ od2 = upd od cnM (nI 0) ∧ sk2 = upd sk cnM (nI 0)) : lz_i (cn + 1) ln2 ik2 ic2 ia2 ib2 fl2 iw2 is_2 ih2 ij2 (cnM + 1) kd2 wd2 sr2 od2 sk2 := by
  obtain ⟨a1, a2, a3, a4, a5, a6, a7, a8⟩ := a
  obtain ⟨g1, g2, g3, g4, g5⟩ := g
  refine lz_add h hc a1 a2 a3 a4 ?_ ?_ ?_ ?_ g1 g2 g3 g4 g5 (lz_no (by decide)) (lz_no (by decide)) (lz_no (by decide))
  · exact a5
  · rw [a6]; exact (Int64.add_zero _).symm
  · rw [a7]; exact (Int64.add_zero _).symm
  · rw [a8]; exact (Int64.add_zero _).symm
theorem lz_pp (p : Int32) : (pm_pp p).toInt ≤ 10000 := by
  unfold pm_pp
  split
  · split
    · rename_i h
      rw [Int32.le_iff_toInt_le, nI_toInt (by decide)] at h
      omega
    · rw [nI_toInt (by decide)]; omega
  · decide
theorem lz_pen {p : Int32} (h : lz_i cn ln ik ic ia ib fl iw is_ ih ij cnM kd wd sr od sk) (hc : cn < 4096)
    (a : ln2 = kg_n ln (cn + 1) 4096 ∧ (∀ j, j < cn → ik2 j = ik j ∧ ic2 j = ic j ∧ ia2 j = ia j ∧ ib2 j = ib j ∧ fl2 j = fl j) ∧ ik2 cn = nI 3 ∧ (∀ j, j < cn + 1 → iw2 j = iw j ∧ is_2 j = is_ j ∧ ih2 j = ih j ∧ ij2 j = ij j) ∧ iw2 (cn + 1) = iw cn + (nI 0).toInt64 ∧ is_2 (cn + 1) = is_ cn ∧ ih2 (cn + 1) = ih cn ∧ ij2 (cn + 1) = ij cn ∧ ic2 cn = pm_pp p)
    (g : kd2 = upd kd cnM (nI 3) ∧ wd2 = upd wd cnM (pm_pp p) ∧ sr2 = upd sr cnM (nI 0) ∧ od2 = upd od cnM (nI 0) ∧ sk2 = upd sk cnM (nI 0)) : lz_i (cn + 1) ln2 ik2 ic2 ia2 ib2 fl2 iw2 is_2 ih2 ij2 (cnM + 1) kd2 wd2 sr2 od2 sk2 := by
  obtain ⟨a1, a2, a3, a4, a5, a6, a7, a8, a9⟩ := a
  obtain ⟨g1, g2, g3, g4, g5⟩ := g
  refine lz_add h hc a1 a2 a3 a4 ?_ ?_ ?_ ?_ g1 g2 g3 g4 g5 (fun _ => ⟨a9, lz_pp p⟩) (lz_no (by decide)) (lz_no (by decide))
  · exact a5
  · rw [a6]; exact (Int64.add_zero _).symm
  · rw [a7]; exact (Int64.add_zero _).symm
  · rw [a8]; exact (Int64.add_zero _).symm
theorem lz_bx {x : Int32} {n : Nat} (hn : n < 2 ^ 31) (h : pm_in x (nI 0) (nI n)) : ∃ j, j ≤ n ∧ x = nI j := ⟨_, (kn_box hn h.1 h.2).2, (kn_box hn h.1 h.2).1⟩
theorem lz_cut {a9 b9 u9 f9 : Int32} (h : lz_i cn ln ik ic ia ib fl iw is_ ih ij cnM kd wd sr od sk) (hc : cn < 4096) (hy : pm_cu a9 b9 u9 f9)
    (a : ln2 = kg_n ln (cn + 1) 4096 ∧ (∀ j, j < cn → ik2 j = ik j ∧ ic2 j = ic j ∧ ia2 j = ia j ∧ ib2 j = ib j ∧ fl2 j = fl j) ∧ ik2 cn = nI 4 ∧ (∀ j, j < cn + 1 → iw2 j = iw j ∧ is_2 j = is_ j ∧ ih2 j = ih j ∧ ij2 j = ij j) ∧ iw2 (cn + 1) = iw cn + u9.toInt64 ∧ is_2 (cn + 1) = is_ cn ∧ ih2 (cn + 1) = ih cn ∧ ij2 (cn + 1) = ij cn ∧ ia2 cn = a9 ∧ ib2 cn = b9 ∧ fl2 cn = f9)
    (g : kd2 = upd kd cnM (nI 4) ∧ wd2 = upd wd cnM u9 ∧ sr2 = upd sr cnM a9 ∧ od2 = upd od cnM f9 ∧ sk2 = upd sk cnM b9) : lz_i (cn + 1) ln2 ik2 ic2 ia2 ib2 fl2 iw2 is_2 ih2 ij2 (cnM + 1) kd2 wd2 sr2 od2 sk2 := by
  obtain ⟨a1, a2, a3, a4, a5, a6, a7, a8, a9', a10, a11⟩ := a
  obtain ⟨g1, g2, g3, g4, g5⟩ := g
  obtain ⟨j, j1, j2⟩ := lz_bx (n := 7) (by decide) hy.2.2.2
  refine lz_add h hc a1 a2 a3 a4 ?_ ?_ ?_ ?_ g1 g2 g3 g4 g5 (lz_no (by decide)) (fun _ => ⟨a11, a9', a10, j, by omega, j2⟩) (lz_no (by decide))
  · exact a5
  · rw [a6]; exact (Int64.add_zero _).symm
  · rw [a7]; exact (Int64.add_zero _).symm
  · rw [a8]; exact (Int64.add_zero _).symm
theorem lz_glue {w st2 or2 sh2 : Int32} (h : lz_i cn ln ik ic ia ib fl iw is_ ih ij cnM kd wd sr od sk) (hc : cn < 4096) (hy : pm_gl w st2 or2 sh2)
    (a : ln2 = kg_n ln (cn + 1) 4096 ∧ (∀ j, j < cn → ik2 j = ik j ∧ ic2 j = ic j ∧ ia2 j = ia j ∧ ib2 j = ib j ∧ fl2 j = fl j) ∧ ik2 cn = nI 1 ∧ (∀ j, j < cn + 1 → iw2 j = iw j ∧ is_2 j = is_ j ∧ ih2 j = ih j ∧ ij2 j = ij j) ∧ iw2 (cn + 1) = iw cn + w.toInt64 ∧ is_2 (cn + 1) = (if or2 = 0 then is_ cn + st2.toInt64 else is_ cn) ∧ ih2 (cn + 1) = (if or2 = 0 then ih cn else ih cn + st2.toInt64) ∧ ij2 (cn + 1) = ij cn + sh2.toInt64)
    (g : kd2 = upd kd cnM (nI 1) ∧ wd2 = upd wd cnM w ∧ sr2 = upd sr cnM st2 ∧ od2 = upd od cnM or2 ∧ sk2 = upd sk cnM sh2) : lz_i (cn + 1) ln2 ik2 ic2 ia2 ib2 fl2 iw2 is_2 ih2 ij2 (cnM + 1) kd2 wd2 sr2 od2 sk2 := by
  obtain ⟨a1, a2, a3, a4, a5, a6, a7, a8⟩ := a
  obtain ⟨g1, g2, g3, g4, g5⟩ := g
  obtain ⟨j, j1, j2⟩ := lz_bx (n := 3) (by decide) hy.2.2.1
  refine lz_add h hc a1 a2 a3 a4 ?_ ?_ ?_ ?_ g1 g2 g3 g4 g5 (lz_no (by decide)) (lz_no (by decide)) (fun _ => ⟨j, j1, j2⟩)
  · exact a5
  · rw [a6, j2]
    rcases (show j = 0 ∨ j = 1 ∨ j = 2 ∨ j = 3 by omega) with q | q | q | q <;> subst q
    · rfl
    · exact (Int64.add_zero _).symm
    · exact (Int64.add_zero _).symm
    · exact (Int64.add_zero _).symm
  · rw [a7, j2]
    rcases (show j = 0 ∨ j = 1 ∨ j = 2 ∨ j = 3 by omega) with q | q | q | q <;> subst q
    · exact (Int64.add_zero _).symm
    · show ih cn + st2.toInt64 = ih cn + (st2.toInt64 + 0 + 0)
      rw [Int64.add_zero, Int64.add_zero]
    · show ih cn + st2.toInt64 = ih cn + (0 + st2.toInt64 + 0)
      rw [Int64.add_zero, Int64.zero_add]
    · show ih cn + st2.toInt64 = ih cn + (0 + 0 + st2.toInt64)
      rw [Int64.zero_add, Int64.zero_add]
  · exact a8
end LZ1
