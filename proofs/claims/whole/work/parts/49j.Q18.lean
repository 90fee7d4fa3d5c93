/-! both find the same way -/
section QZ
variable {d : kj_D} {kd wd sr od sk ru me si : Nat → Int32} {cn mn ps : Nat} {br : Nat → Nat} {B : Nat}
theorem qz_X (h : ql_H d kd wd sr od sk ru me si cn mn ps br B) (hB : B ≤ 400) : kq_X d B (qm_X kd wd sr od sk ru me si cn mn ps br) := by
  refine ⟨fun n b z hb => qm_is h hB n b z hb, fun b z => ?_⟩
  show ((if b = 0 ∧ z = 2 then some (0, ((0 : Int64), (0 : Int32), (0 : Int64))) else none : Option (Nat × qx_V))).map _ = _
  split
  · unfold ql_p
    simp only [Option.map_some, ite_self]
  · rfl
theorem qz_some {n b z p : Nat} {w : qx_V} : (qm_X kd wd sr od sk ru me si cn mn ps br) n b z = some (p, w) ↔ ∃ v, (qr_X kd wd sr od sk ru me si cn mn ps br) n b z = some (p, v) ∧ w = ql_p ps v := by
  unfold qm_X
  constructor
  · intro h
    cases hx : (qr_X kd wd sr od sk ru me si cn mn ps br) n b z with
    | none => rw [hx] at h; cases h
    | some y => rw [hx] at h; cases h; exact ⟨y.2, rfl, rfl⟩
  · rintro ⟨v, h1, h2⟩
    rw [h1, h2]; rfl
theorem qz_none {n b z : Nat} : (qm_X kd wd sr od sk ru me si cn mn ps br) n b z = none ↔ (qr_X kd wd sr od sk ru me si cn mn ps br) n b z = none := by
  unfold qm_X
  exact Option.map_eq_none_iff
/-- the best way of a number of lines -/
def qz_row (kd wd sr od sk ru me si : Nat → Int32) (cn mn ps : Nat) (br : Nat → Nat) (B N z : Nat) (v : qx_V) : Prop := z < 4 ∧ (∃ p, qr_X kd wd sr od sk ru me si cn mn ps br N B z = some (p, v)) ∧ ∀ z2, z2 < 4 → ∀ q v2, qr_X kd wd sr od sk ru me si cn mn ps br N B z2 = some (q, v2) → ¬ qx_lt ps v2 v ∧ (z2 < z → qx_lt ps v v2)
theorem qz_uni {N z z2 : Nat} {v v2 : qx_V} (h : (qz_row kd wd sr od sk ru me si cn mn ps br B) N z v) (h2 : (qz_row kd wd sr od sk ru me si cn mn ps br B) N z2 v2) : z = z2 ∧ v = v2 := by
  obtain ⟨a1, ⟨p, a2⟩, a3⟩ := h
  obtain ⟨b1, ⟨q, b2⟩, b3⟩ := h2
  have e : z = z2 := by
    rcases Nat.lt_trichotomy z z2 with w | w | w
    · exact absurd ((b3 z a1 p v a2).2 w) (a3 z2 b1 q v2 b2).1
    · exact w
    · exact absurd ((a3 z2 b1 q v2 b2).2 w) (b3 z a1 p v a2).1
  subst e
  rw [a2] at b2
  cases b2
  exact ⟨rfl, rfl⟩
theorem qz_qb {N z : Nat} {v : qx_V} : qb_is (qx_lt ps) (fun z => ((qr_X kd wd sr od sk ru me si cn mn ps br) N B z).map Prod.snd) 4 (some (z, v)) → (qz_row kd wd sr od sk ru me si cn mn ps br B) N z v := fun h => by
  obtain ⟨h1, h2, h3⟩ := h
  have h2 : ((qr_X kd wd sr od sk ru me si cn mn ps br) N B z).map Prod.snd = some v := h2
  refine ⟨h1, ?_, fun z2 hz q v2 hv => ?_⟩
  · cases hx : (qr_X kd wd sr od sk ru me si cn mn ps br) N B z with
    | none => rw [hx] at h2; cases h2
    | some y => rw [hx] at h2; cases h2; exact ⟨y.1, rfl⟩
  · exact h3 z2 hz v2 (by show ((qr_X kd wd sr od sk ru me si cn mn ps br) N B z2).map Prod.snd = _; rw [hv]; rfl)
/-- what the reference leaves -/
theorem qz_ref {n0 : Nat} {q : Int} {st : pe_S} {bc : Nat → Int64} (hb : 1 ≤ B) (hB : B ≤ 400) (h : pt_tr kd wd sr od sk ru me si cn mn ps br B n0 q st bc) : 1 ≤ st.1 ∧ st.1 ≤ B ∧ (qz_row kd wd sr od sk ru me si cn mn ps br B) st.1 st.2.1 (st.2.2.1, st.2.2.2.1, st.2.2.2.2) := by
  obtain ⟨a, s0, h0, hs, h1, _, h2⟩ := h
  rcases Nat.eq_zero_or_pos a with e | e
  · subst e
    obtain ⟨r, g1, g2⟩ := qf_E0 (kd := kd) (wd := wd) (sr := sr) (od := od) (sk := sk) (ru := ru) (me := me) (si := si) (cn := cn) (mn := mn) (ps := ps) (br := br) (bk := B) (s0 := s0) h0 hb B
    rw [← hs] at g1
    cases r with
    | none => have g1 : st.1 = 0 := g1; omega
    | some y =>
      obtain ⟨k1, k2, k3⟩ := g1
      obtain ⟨g2, g3, g4⟩ := g2
      have g2 : y.1 < 4 * B := g2
      have g3 : ((qr_X kd wd sr od sk ru me si cn mn ps br) (y.1 / 4 + 1) B (y.1 % 4)).map Prod.snd = some y.2 := g3
      refine ⟨h1, by omega, ?_⟩
      rw [k3, k2, k1]
      refine ⟨by omega, ?_, fun z2 hz u v2 hv => ?_⟩
      · cases hx : (qr_X kd wd sr od sk ru me si cn mn ps br) (y.1 / 4 + 1) B (y.1 % 4) with
        | none => rw [hx] at g3; cases g3
        | some w => rw [hx] at g3; exact ⟨w.1, by rw [← Option.some.inj g3]⟩
      · have := g4 (4 * (y.1 / 4) + z2) (by omega) v2 (by
          show ((qr_X kd wd sr od sk ru me si cn mn ps br) ((4 * (y.1 / 4) + z2) / 4 + 1) B ((4 * (y.1 / 4) + z2) % 4)).map Prod.snd = _
          rw [show (4 * (y.1 / 4) + z2) / 4 = y.1 / 4 by omega, show (4 * (y.1 / 4) + z2) % 4 = z2 by omega, hv]; rfl)
        exact ⟨this.1, fun w => this.2 (by omega)⟩
  · rcases h2 with ⟨_, e2, _⟩ | ⟨a1, a2, a3, _⟩
    · omega
    · refine ⟨h1, by omega, ?_⟩
      obtain ⟨r, g1, g2⟩ := qf_Ea (kd := kd) (wd := wd) (sr := sr) (od := od) (sk := sk) (ru := ru) (me := me) (si := si) (cn := cn) (mn := mn) (ps := ps) (br := br) (bk := B) (s0 := s0) h0 a1 a2
      rw [← hs] at g2
      cases r with
      | none => have g2 : st.1 = 0 := g2; omega
      | some y =>
        obtain ⟨k1, k2, k3⟩ := g2
        rw [k3, k2, k1]
        exact qz_qb g1
/-- no way at all, or the same best way -/
theorem qz_first {s0 : pe_S} (h0 : s0.1 = 0) (hb : 1 ≤ B) (hB : B ≤ 400) : ((∀ n z, 1 ≤ n → z < 4 → (qm_X kd wd sr od sk ru me si cn mn ps br) n B z = none) → ((pg_E kd wd sr od sk ru me si cn mn ps br) B 0 s0 B).1 = 0) ∧ ∀ m z p w, 1 ≤ m → z < 4 → (qm_X kd wd sr od sk ru me si cn mn ps br) m B z = some (p, w) → (∀ n z2, 1 ≤ n → z2 < 4 → ∀ q v, (qm_X kd wd sr od sk ru me si cn mn ps br) n B z2 = some (q, v) → ¬ qx_lt 3 v w ∧ (n < m → qx_lt 3 w v) ∧ (n = m → z2 < z → qx_lt 3 w v)) → ((pg_E kd wd sr od sk ru me si cn mn ps br) B 0 s0 B).1 = m := by
  obtain ⟨r, g1, g2⟩ := qf_E0 (kd := kd) (wd := wd) (sr := sr) (od := od) (sk := sk) (ru := ru) (me := me) (si := si) (cn := cn) (mn := mn) (ps := ps) (br := br) (bk := B) (s0 := s0) h0 hb B
  refine ⟨fun hn => ?_, fun m z p w hm hz hx hmin => ?_⟩
  · cases r with
    | none => exact g1
    | some y =>
      have g3 : ((qr_X kd wd sr od sk ru me si cn mn ps br) (y.1 / 4 + 1) B (y.1 % 4)).map Prod.snd = some y.2 := g2.2.1
      rw [qz_none.mp (hn (y.1 / 4 + 1) (y.1 % 4) (by omega) (by omega))] at g3
      cases g3
  · obtain ⟨v, hv, ew⟩ := qz_some.mp hx
    have hle := qr_le m B z hB hz _ hv
    have hu : qb_is (qx_lt ps) (qf_K kd wd sr od sk ru me si cn mn ps br B) (4 * B) (some (4 * (m - 1) + z, v)) := by
      refine ⟨by show 4 * (m - 1) + z < 4 * B; omega, ?_, fun j hj v2 hv2 => ?_⟩
      · show ((qr_X kd wd sr od sk ru me si cn mn ps br) ((4 * (m - 1) + z) / 4 + 1) B ((4 * (m - 1) + z) % 4)).map Prod.snd = _
        rw [show (4 * (m - 1) + z) / 4 + 1 = m by omega, show (4 * (m - 1) + z) % 4 = z by omega, hv]; rfl
      · have hv2 : ((qr_X kd wd sr od sk ru me si cn mn ps br) (j / 4 + 1) B (j % 4)).map Prod.snd = some v2 := hv2
        cases hy : (qr_X kd wd sr od sk ru me si cn mn ps br) (j / 4 + 1) B (j % 4) with
        | none => rw [hy] at hv2; cases hv2
        | some y =>
          rw [hy] at hv2
          have ev : y.2 = v2 := Option.some.inj hv2
          have := hmin (j / 4 + 1) (j % 4) (by omega) (by omega) y.1 (ql_p ps v2) (qz_some.mpr ⟨v2, by rw [hy, ← ev], rfl⟩)
          rw [ew, ql_lt, ql_lt] at this
          refine ⟨this.1, fun q => ?_⟩
          have q : j < 4 * (m - 1) + z := q
          by_cases e : j / 4 + 1 = m
          · exact this.2.2 e (by omega)
          · exact this.2.1 (by omega)
    have := qb_uni g2 hu
    rw [this] at g1
    have := g1.1
    show _ = m
    rw [this]
    show (4 * (m - 1) + z) / 4 + 1 = m
    omega
/-- a row's best in the class's weights -/
theorem qz_of {N z p : Nat} {w : qx_V} (hz : z < 4) (hx : (qm_X kd wd sr od sk ru me si cn mn ps br) N B z = some (p, w)) (hmin : ∀ z2, z2 < 4 → ∀ q v, (qm_X kd wd sr od sk ru me si cn mn ps br) N B z2 = some (q, v) → ¬ qx_lt 3 v w ∧ (z2 < z → qx_lt 3 w v)) : ∃ v, (qz_row kd wd sr od sk ru me si cn mn ps br B) N z v ∧ w = ql_p ps v := by
  obtain ⟨v, hv, ew⟩ := qz_some.mp hx
  refine ⟨v, ⟨hz, ⟨p, hv⟩, fun z2 hz2 q v2 hv2 => ?_⟩, ew⟩
  have := hmin z2 hz2 q (ql_p ps v2) (qz_some.mpr ⟨v2, hv2, rfl⟩)
  rw [ew, ql_lt, ql_lt] at this
  exact this
theorem qz_no {k : Nat} (hk : 1 ≤ k) (hb : 1 ≤ B) : pt_no (pg_T kd wd sr od sk ru me si cn mn ps br) B k ↔ ∀ z, z < 4 → (qm_X kd wd sr od sk ru me si cn mn ps br) k B z = none := by
  have e : ∀ z, (pg_T kd wd sr od sk ru me si cn mn ps br k (B - 1) z = none ↔ (qm_X kd wd sr od sk ru me si cn mn ps br) k B z = none) := fun z => by
    rw [qz_none, qr_X_up hk, if_neg (by omega)]
    exact Option.map_eq_none_iff.symm
  exact ⟨fun h z hz => (e z).mp (h z hz), fun h z hz => (e z).mpr (h z hz)⟩
/-- the number of lines that a looseness asks for: both take the same -/
theorem qz_num {n0 N goal : Nat} {q : Int} (hb : 1 ≤ B) (h0 : 1 ≤ n0) (h0B : n0 ≤ B) (hg : (goal : Int) = max 1 (min (B : Int) ((n0 : Int) + q))) (no : Nat → Prop) (hN : 1 ≤ N ∧ N ≤ B ∧ ¬ no N) (hn0 : ¬ no n0)
    (hcl : (goal = n0 → N = n0) ∧ (n0 < goal → n0 ≤ N ∧ N ≤ goal ∧ ∀ k, N < k → k ≤ goal → no k) ∧ (goal < n0 → goal ≤ N ∧ N ≤ n0 ∧ ∀ k, goal ≤ k → k < N → no k)) {a : Nat} (ha : (q = 0 ∧ a = n0) ∨ (1 ≤ a ∧ a ≤ B ∧ pt_sr no B n0 q a)) (hwa : ¬ no a) : N = a := by
  rcases ha with ⟨e1, e2⟩ | ⟨a1, a2, a3, a4, a5⟩
  · have : goal = n0 := by omega
    rw [hcl.1 this, e2]
  · rcases Int.lt_trichotomy 0 q with hq | hq | hq
    · obtain ⟨b1, b2, b3⟩ := a4 hq
      rcases Nat.lt_trichotomy goal n0 with g | g | g
      · omega
      · have := hcl.1 g
        omega
      · obtain ⟨c1, c2, c3⟩ := hcl.2.1 g
        rcases Nat.lt_trichotomy N a with w | w | w
        · exact absurd (c3 a w (by omega)) hwa
        · exact w
        · exact absurd (b3 N (by omega) hN.2.1 (by omega)) hN.2.2
    · exact absurd hq.symm a3
    · obtain ⟨b1, b2, b3⟩ := a5 hq
      rcases Nat.lt_trichotomy goal n0 with g | g | g
      · obtain ⟨c1, c2, c3⟩ := hcl.2.2 g
        rcases Nat.lt_trichotomy N a with w | w | w
        · exact absurd (b3 N hN.1 (by omega) (by omega)) hN.2.2
        · exact w
        · exact absurd (c3 a (by omega) w) hwa
      · have := hcl.1 g
        omega
      · omega
end QZ
