/-! the number of lines that a looseness asks for -/
theorem pt_dn1 {x : Int32} (h : -(2 ^ 31) < x.toInt) : (x + (-1)).toInt = x.toInt - 1 := by
  have h2 := Int32.toInt_lt x
  rw [Int32.toInt_add, show ((-1) : Int32).toInt = -1 by decide +kernel]
  exact Int.bmod_eq_of_le (by omega) (by omega)
theorem pt_up1 {x : Int32} (h : x.toInt < 2 ^ 31 - 1) : (x + nI 1).toInt = x.toInt + 1 := by
  have h2 := Int32.le_toInt x
  rw [Int32.toInt_add, show (nI 1).toInt = 1 by decide +kernel]
  exact Int.bmod_eq_of_le (by omega) (by omega)
theorem pt_add {n : Nat} {x : Int32} (hn : n ≤ 400) (h1 : -10000 ≤ x.toInt) (h2 : x.toInt ≤ 10000) : (nI n + x).toInt = n + x.toInt := by
  rw [Int32.toInt_add, nI_toInt (by omega)]
  exact Int.bmod_eq_of_le (by omega) (by omega)
def pt_sr (no : Nat → Prop) (bk n0 : Nat) (q nv : Int) : Prop := ¬ q = 0 ∧ (0 < q → (n0 : Int) ≤ nv ∧ nv ≤ n0 + q ∧ ∀ k : Nat, nv < k → k ≤ bk → (k : Int) ≤ n0 + q → no k) ∧ (q < 0 → nv ≤ n0 ∧ n0 + q ≤ nv ∧ ∀ k : Nat, 1 ≤ k → (k : Int) < nv → n0 + q ≤ k → no k)
theorem pt_sr0 {no : Nat → Prop} {bk n0 : Nat} {q : Int} (h : ¬ q = 0) : pt_sr no bk n0 q (n0 + q) := ⟨h, fun h1 => ⟨by omega, by omega, fun k a b c => absurd a (by omega)⟩, fun h1 => ⟨by omega, by omega, fun k a b c => absurd b (by omega)⟩⟩
theorem pt_sr1 {no : Nat → Prop} {bk n0 : Nat} {q nv : Int} (h : pt_sr no bk n0 q nv) (hn : ∀ k : Nat, (k : Int) = nv → 1 ≤ k → k ≤ bk → no k) (h0 : 1 ≤ n0) (hb : n0 ≤ bk) (hw : ¬ no n0) (hq : 0 < q) : pt_sr no bk n0 q (nv - 1) ∧ (nv - 1 - n0).natAbs < (nv - n0).natAbs := by
  obtain ⟨a1, a2, _⟩ := h.2.1 hq
  have hne : ¬ nv = n0 := fun e => hw (hn n0 e.symm h0 hb)
  refine ⟨⟨h.1, fun _ => ⟨by omega, by omega, fun k b1 b2 b3 => ?_⟩, fun q2 => absurd q2 (by omega)⟩, by omega⟩
  by_cases e : (k : Int) = nv
  · exact hn k e (by omega) b2
  · exact (h.2.1 hq).2.2 k (by omega) b2 b3
theorem pt_sr2 {no : Nat → Prop} {bk n0 : Nat} {q nv : Int} (h : pt_sr no bk n0 q nv) (hn : ∀ k : Nat, (k : Int) = nv → 1 ≤ k → k ≤ bk → no k) (h0 : 1 ≤ n0) (hb : n0 ≤ bk) (hw : ¬ no n0) (hq : ¬ 0 < q) : pt_sr no bk n0 q (nv + 1) ∧ (nv + 1 - n0).natAbs < (nv - n0).natAbs := by
  have hz := h.1
  obtain ⟨a1, a2, _⟩ := h.2.2 (by omega)
  have hne : ¬ nv = n0 := fun e => hw (hn n0 e.symm h0 hb)
  refine ⟨⟨h.1, fun q2 => absurd q2 hq, fun _ => ⟨by omega, by omega, fun k b1 b2 b3 => ?_⟩⟩, by omega⟩
  by_cases e : (k : Int) = nv
  · exact hn k e (by omega) (by omega)
  · exact (h.2.2 (by omega)).2.2 k b1 (by omega) b3
abbrev pt_no (T : Nat → Nat → pt_R) (bk k : Nat) : Prop := ∀ z, z < 4 → T k (bk - 1) z = none
/-- what tried leaves: the best way of the number of lines that is wanted -/
def pt_tr (kd wd sr od sk ru me si : Nat → Int32) (cn mn ps : Nat) (br : Nat → Nat) (bk n0 : Nat) (q : Int) (st : pe_S) (bc : Nat → Int64) : Prop := ∃ (a : Nat) (s0 : pe_S), s0.1 = 0 ∧ st = pg_E kd wd sr od sk ru me si cn mn ps br bk a s0 bk ∧ 1 ≤ st.1 ∧ (∀ m9, 1 ≤ m9 → m9 ≤ bk → (a = 0 ∨ m9 ≤ a) → ∀ x, x < bk → ∀ c9, c9 < 4 → ∀ y, pg_T kd wd sr od sk ru me si cn mn ps br m9 x c9 = some y → pm_bk (bc (pm_pc x m9)) c9 = y.2.2.2) ∧ ((q = 0 ∧ a = 0 ∧ st.1 = n0) ∨ (1 ≤ a ∧ a ≤ bk ∧ st.1 = a ∧ pt_sr (pt_no (pg_T kd wd sr od sk ru me si cn mn ps br) bk) bk n0 q a))
section PTR
variable {kd wd sr od sk ru me si : Nat → Int32} {cn mn ps : Nat} {br : Nat → Nat} {bk : Nat} {s0 : pe_S}
theorem pt_way {n0 : Nat} (h0 : s0.1 = 0) (hb : 1 ≤ bk) (h : (pg_E kd wd sr od sk ru me si cn mn ps br bk 0 s0 bk).1 = n0) (hn : 1 ≤ n0) : n0 ≤ bk ∧ ¬ pt_no (pg_T kd wd sr od sk ru me si cn mn ps br) bk n0 := by
  rcases pg_E_is (kd := kd) (wd := wd) (sr := sr) (od := od) (sk := sk) (ru := ru) (me := me) (si := si) (cn := cn) (mn := mn) (ps := ps) (br := br) (bk := bk) (asked := 0) (s0 := s0) bk with e | ⟨m, m1, m2, m3, m4⟩
  · rw [e] at h; omega
  · have e : m = n0 := m4.1.symm.trans h
    subst e
    refine ⟨m2, fun q => ?_⟩
    have := m4.2.2
    simp only at this
    rw [q _ m4.2.1] at this
    cases this
/-- made says no: no way of that many lines -/
theorem pt_none {a : Nat} (h0 : s0.1 = 0) (ha : 1 ≤ a) (hb : a ≤ bk) (h : ¬ 0 < (pg_E kd wd sr od sk ru me si cn mn ps br bk a s0 bk).1) : pt_no (pg_T kd wd sr od sk ru me si cn mn ps br) bk a := fun z hz => by
  refine Classical.byContradiction (fun q => ?_)
  have := pg_E_yes (s0 := s0) ha hb h0 ⟨z, hz, q⟩
  omega
theorem pt_some {a : Nat} (h0 : s0.1 = 0) (ha : 1 ≤ a) (hb : a ≤ bk) (h : 0 < (pg_E kd wd sr od sk ru me si cn mn ps br bk a s0 bk).1) : (pg_E kd wd sr od sk ru me si cn mn ps br bk a s0 bk).1 = a := by
  rcases pg_E_is (kd := kd) (wd := wd) (sr := sr) (od := od) (sk := sk) (ru := ru) (me := me) (si := si) (cn := cn) (mn := mn) (ps := ps) (br := br) (bk := bk) (asked := a) (s0 := s0) bk with e | ⟨m, m1, m2, m3, m4⟩
  · rw [e] at h; omega
  · rcases m3 with q | q
    · omega
    · exact m4.1.trans q
end PTR
theorem pt_srB {no : Nat → Prop} {bk n0 : Nat} {q nv : Int} (h : pt_sr no bk n0 q nv) (h1 : -10000 ≤ q) (h2 : q ≤ 10000) (h3 : n0 ≤ 400) : -20000 ≤ nv ∧ nv ≤ 20000 := by
  have h0 := h.1
  by_cases a : 0 < q
  · have := h.2.1 a
    omega
  · have := h.2.2 (by omega)
    omega
