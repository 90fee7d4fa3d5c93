/-! a row of the class's search, and what is offered to it -/
abbrev ke_K : Type := qx_V × Nat
abbrev ke_R : Type := Option (Nat × ke_K)
abbrev ke_T (x y : ke_K) : Prop := qy_lt (qx_lt 3) x y
theorem ke_O : qb_O ke_T := qy_O (qx_O 3)
def kv_ (ro : Nat → Int64) (rv : Nat → Int32) (rd : Nat → Int64) (rc : Nat → Int32) (p : Nat) (r : Option ke_K) : Prop := match r with
  | none => rc p = (-1)
  | some z => z.2 ≤ 1000 ∧ rc p = nI z.2 ∧ ro p = z.1.1 ∧ rv p = z.1.2.1 ∧ rd p = z.1.2.2
def ke_en (i : Nat) : Nat := 8 * (i / 8) + 2 * (i % 4) + i % 8 / 4
def kw_ (bk : Nat → Int32) (q : Nat) (r : ke_R) : Prop := ∀ z, r = some z → bk q = nI (ke_en z.1)
def ka_ (PL : Nat) (an : Int32) (rc : Nat → Int32) : Prop := (an = nI 0 ∨ an = nI 1) ∧ (an = 0 ↔ ∀ p, p < PL → rc p = (-1))
def kf_ (pl : Nat) (ro : Nat → Int64) (rv : Nat → Int32) (rd : Nat → Int64) (rc : Nat → Int32) (ro2 : Nat → Int64) (rv2 : Nat → Int32) (rd2 : Nat → Int64) (rc2 : Nat → Int32) : Prop := ∀ p, ¬ p = pl → ro2 p = ro p ∧ rv2 p = rv p ∧ rd2 p = rd p ∧ rc2 p = rc p
theorem kf_rf {pl : Nat} {ro : Nat → Int64} {rv : Nat → Int32} {rd : Nat → Int64} {rc : Nat → Int32} : kf_ pl ro rv rd rc ro rv rd rc := fun _ _ => ⟨rfl, rfl, rfl, rfl⟩
theorem ke_m1 {n : Nat} (h : n ≤ 1000) : ¬ nI n = (-1) := fun q => by
  have h1 := congrArg Int32.toInt q
  rw [nI_toInt (by omega), show ((-1) : Int32).toInt = -1 by decide +kernel] at h1
  omega
theorem ke_has {ro : Nat → Int64} {rv : Nat → Int32} {rd : Nat → Int64} {rc : Nat → Int32} {p : Nat} {r : Option ke_K} (h : kv_ ro rv rd rc p r) : rc p = (-1) ↔ r = none := by
  cases r with
  | none => exact ⟨fun _ => rfl, fun _ => h⟩
  | some z => exact ⟨fun q => absurd (h.2.1.symm.trans q) (ke_m1 h.1), fun q => nomatch q⟩
theorem kv_congr {ro ro2 : Nat → Int64} {rv rv2 : Nat → Int32} {rd rd2 : Nat → Int64} {rc rc2 : Nat → Int32} {p : Nat} {r : Option ke_K} (h : kv_ ro rv rd rc p r) (e1 : ro2 p = ro p) (e2 : rv2 p = rv p) (e3 : rd2 p = rd p) (e4 : rc2 p = rc p) : kv_ ro2 rv2 rd2 rc2 p r := by
  cases r with
  | none => exact e4.trans h
  | some z => exact ⟨h.1, e4.trans h.2.1, e1.trans h.2.2.1, e2.trans h.2.2.2.1, e3.trans h.2.2.2.2⟩
theorem kv_fr {pl : Nat} {ro ro2 : Nat → Int64} {rv rv2 : Nat → Int32} {rd rd2 : Nat → Int64} {rc rc2 : Nat → Int32} {p : Nat} {r : Option ke_K} (hf : kf_ pl ro rv rd rc ro2 rv2 rd2 rc2) (hp : ¬ p = pl) (h : kv_ ro rv rd rc p r) : kv_ ro2 rv2 rd2 rc2 p r := by
  obtain ⟨a, b, c, d⟩ := hf p hp
  exact kv_congr h a b c d
theorem ke_lt {w v : qx_V} {n m : Nat} (hn : n < 2 ^ 31) (hm : m < 2 ^ 31) : pk_bt w.1 v.1 w.2.1 v.2.1 w.2.2 v.2.2 (nI n) (nI m) ↔ ke_T (w, n) (v, m) := by
  unfold pk_bt ke_T qy_lt qx_lt
  have e : (¬ nI m ≤ nI n) ↔ n < m := by rw [nI_leI hm hn]; omega
  simp only [e, Int64.not_le, Int32.not_le]
  simp only [Int64.lt_iff_toInt_lt, Int32.lt_iff_toInt_lt, ← Int64.toInt_inj, ← Int32.toInt_inj]
  generalize w.1.toInt = a1 at *
  generalize v.1.toInt = b1 at *
  generalize w.2.1.toInt = a2 at *
  generalize v.2.1.toInt = b2 at *
  generalize w.2.2.toInt = a3 at *
  generalize v.2.2.toInt = b3 at *
  by_cases h1 : a1 = b1 <;> by_cases h3 : a2 = b2 <;> by_cases h4 : a3 = b3 <;> simp only [h1, h3, h4, if_true, if_false, Int.lt_irrefl, eq_comm, true_and, not_false_iff, false_or] <;> omega
section KE
variable {ro : Nat → Int64} {rv : Nat → Int32} {rd : Nat → Int64} {rc : Nat → Int32} {pl N : Nat} {r : ke_R} {K : Nat → Option ke_K} {z : ke_K}
theorem ke_y (hk : kv_ ro rv rd rc pl (r.map Prod.snd)) (hq : qb_is ke_T K N r) (hK : K N = some z) (hz : z.2 ≤ 1000) (hc : rc pl = (-1) ∨ pk_bt z.1.1 (ro pl) z.1.2.1 (rv pl) z.1.2.2 (rd pl) (nI z.2) (rc pl)) : qb_is ke_T K (N + 1) (some (N, z)) := by
  cases r with
  | none => exact qb_f ke_O hq hK
  | some y =>
    obtain ⟨h1, h2, h3, h4, h5⟩ := hk
    have h1 : y.2.2 ≤ 1000 := h1
    rcases hc with hc | hc
    · exact absurd (h2.symm.trans hc) (ke_m1 h1)
    · rw [h2, h3, h4, h5] at hc
      exact qb_b (i := y.1) (z := y.2) ke_O hq hK ((ke_lt (Nat.lt_of_le_of_lt hz (by decide)) (Nat.lt_of_le_of_lt h1 (by decide))).mp hc)
theorem ke_n (hk : kv_ ro rv rd rc pl (r.map Prod.snd)) (hq : qb_is ke_T K N r) (hK : K N = some z) (hz : z.2 ≤ 1000) (hc : ¬ (rc pl = (-1) ∨ pk_bt z.1.1 (ro pl) z.1.2.1 (rv pl) z.1.2.2 (rd pl) (nI z.2) (rc pl))) : qb_is ke_T K (N + 1) r := by
  cases r with
  | none => exact absurd (Or.inl hk) hc
  | some y =>
    obtain ⟨h1, h2, h3, h4, h5⟩ := hk
    have h1 : y.2.2 ≤ 1000 := h1
    have h0 := fun q => hc (Or.inr q)
    rw [h2, h3, h4, h5] at h0
    exact qb_k (i := y.1) (z := y.2) hq hK (fun q => h0 ((ke_lt (Nat.lt_of_le_of_lt hz (by decide)) (Nat.lt_of_le_of_lt h1 (by decide))).mpr q))
end KE
/-- what extend keeps: at its place the best of what was offered so far -/
def ke_at (K : Nat → Option ke_K) (N pl q : Nat) (ro : Nat → Int64) (rv : Nat → Int32) (rd : Nat → Int64) (rc : Nat → Int32) (bk : Nat → Int32) : Prop := ∃ r : ke_R, kv_ ro rv rd rc pl (r.map Prod.snd) ∧ kw_ bk q r ∧ qb_is ke_T K N r
theorem ke_at_n {K : Nat → Option ke_K} {N pl q : Nat} {ro : Nat → Int64} {rv : Nat → Int32} {rd : Nat → Int64} {rc bk : Nat → Int32} (h : ke_at K N pl q ro rv rd rc bk) (hk : K N = none) : ke_at K (N + 1) pl q ro rv rd rc bk := by
  obtain ⟨r, h1, h2, h3⟩ := h
  exact ⟨r, h1, h2, qb_n h3 hk⟩
theorem ke_at_k {K : Nat → Option ke_K} {N pl q : Nat} {ro : Nat → Int64} {rv : Nat → Int32} {rd : Nat → Int64} {rc bk : Nat → Int32} {z : ke_K} (h : ke_at K N pl q ro rv rd rc bk) (hK : K N = some z) (hz : z.2 ≤ 1000) (hc : ¬ (rc pl = (-1) ∨ pk_bt z.1.1 (ro pl) z.1.2.1 (rv pl) z.1.2.2 (rd pl) (nI z.2) (rc pl))) : ke_at K (N + 1) pl q ro rv rd rc bk := by
  obtain ⟨r, h1, h2, h3⟩ := h
  exact ⟨r, h1, h2, ke_n h1 h3 hK hz hc⟩
theorem ke_at_y {K : Nat → Option ke_K} {N pl q : Nat} {ro : Nat → Int64} {rv : Nat → Int32} {rd : Nat → Int64} {rc bk : Nat → Int32} {z : ke_K} {v : Int32} (h : ke_at K N pl q ro rv rd rc bk) (hK : K N = some z) (hz : z.2 ≤ 1000) (hc : rc pl = (-1) ∨ pk_bt z.1.1 (ro pl) z.1.2.1 (rv pl) z.1.2.2 (rd pl) (nI z.2) (rc pl)) (hv : v = nI (ke_en N)) : ke_at K (N + 1) pl q (vp_updL ro pl z.1.1) (upd rv pl z.1.2.1) (vp_updL rd pl z.1.2.2) (upd rc pl (nI z.2)) (upd bk q v) := by
  obtain ⟨r, h1, h2, h3⟩ := h
  refine ⟨some (N, z), ⟨hz, ?_, ?_, ?_, ?_⟩, fun y hy => ?_, ke_y h1 h3 hK hz hc⟩
  · simp only [upd, if_true]
  · simp only [vp_updL, if_true]
  · simp only [upd, if_true]
  · simp only [vp_updL, if_true]
  · cases hy
    simp only [upd, if_true]
    exact hv
theorem kf_y {pl : Nat} {ro ro1 : Nat → Int64} {rv rv1 : Nat → Int32} {rd rd1 : Nat → Int64} {rc rc1 : Nat → Int32} {a : Int64} {b : Int32} {c : Int64} {d : Int32} (h : kf_ pl ro rv rd rc ro1 rv1 rd1 rc1) : kf_ pl ro rv rd rc (vp_updL ro1 pl a) (upd rv1 pl b) (vp_updL rd1 pl c) (upd rc1 pl d) := fun p hp => by
  obtain ⟨h1, h2, h3, h4⟩ := h p hp
  simp only [upd, vp_updL, hp, if_false]
  exact ⟨h1, h2, h3, h4⟩
theorem ka_y {PL pl : Nat} {rc : Nat → Int32} {n : Nat} (hp : pl < PL) (hn : n ≤ 1000) : ka_ PL (nI 1) (upd rc pl (nI n)) := by
  refine ⟨Or.inr rfl, fun q => absurd q (by decide), fun q => ?_⟩
  have := q pl hp
  simp only [upd, if_true] at this
  exact absurd this (ke_m1 hn)
def pk_ov (ps : Nat) (fb t : Int32) : Nat := if ps = 3 then pm_ab fb t else 0
/-- what a way becomes by a line more -/
def ke_st (fo : Int64) (ov : Nat) (dm ad : Int64) (y : ke_K) : ke_K := ((y.1.1 + fo, y.1.2.1 + nI ov, y.1.2.2 + dm + ad), y.2 + 1)
theorem ke_en_at {x c s : Nat} (hc : c < 4) (hs : s < 2) : ke_en (8 * x + 4 * s + c) = 2 * (x * 4 + c) + s := by
  unfold ke_en
  omega
