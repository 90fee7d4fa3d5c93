/-! what the reference's lines leaves -/
section RL
variable (kd wd sr od sk ru me si : Nat → Int32) (cn mn ps : Nat)
abbrev rl_B : Nat := pq_c (pm_br kd wd od cn ps) (cn + 1)
abbrev rl_r : Nat → Nat := pq_p (pm_br kd wd od cn ps) (cn + 1)
/-- there is no way in this pass -/
def rl_no : Prop := ∀ n z, 1 ≤ n → z < 4 → qr_X kd wd sr od sk ru me si cn mn ps (rl_r kd wd od cn ps) n (rl_B kd wd od cn ps) z = none
/-- N lines, the last of class z, are the way of this pass -/
def rl_way (N z : Nat) (v : qx_V) : Prop := 1 ≤ N ∧ N ≤ rl_B kd wd od cn ps ∧ qz_row kd wd sr od sk ru me si cn mn ps (rl_r kd wd od cn ps) (rl_B kd wd od cn ps) N z v ∧ ∃ n0, 1 ≤ n0 ∧ n0 = (pg_E kd wd sr od sk ru me si cn mn ps (rl_r kd wd od cn ps) (rl_B kd wd od cn ps) 0 (0, 0, 0, 0, 0) (rl_B kd wd od cn ps)).1 ∧ (((ru 8).toInt = 0 ∧ N = n0) ∨ (1 ≤ N ∧ N ≤ rl_B kd wd od cn ps ∧ pt_sr (pt_no (pg_T kd wd sr od sk ru me si cn mn ps (rl_r kd wd od cn ps)) (rl_B kd wd od cn ps)) (rl_B kd wd od cn ps) n0 (ru 8).toInt N))
def rl_f (t : Int32) : Nat := if 0 ≤ t then 1 else 2
end RL
section RL2
variable {kd wd sr od sk ru me si : Nat → Int32} {cn mn ps : Nat}
theorem rl_B1 : 1 ≤ rl_B kd wd od cn ps := by
  unfold rl_B
  rw [pq_c_s (P := pm_br kd wd od cn ps) (show pm_br kd wd od cn ps cn from by unfold pm_br; rw [if_pos rfl]; trivial)]
  omega
theorem rl_le (h3 : ps ≤ 3) : rl_B kd wd od cn ps ≤ rl_B kd wd od cn 2 := by
  have : ∀ k, pm_br kd wd od cn ps k → pm_br kd wd od cn 2 k := fun k h => by
    unfold pm_br at h ⊢
    split
    · trivial
    · rename_i h1
      rw [if_neg h1] at h
      split
      · rename_i h2; rw [if_pos h2] at h; exact h
      · rename_i h2
        rw [if_neg h2] at h
        split
        · rename_i h4; rw [if_pos h4] at h; exact h
        · rename_i h4
          rw [if_neg h4] at h
          split
          · rename_i h5; rw [if_pos h5] at h; exact h
          · rename_i h5
            rw [if_neg h5] at h
            exact ⟨h.1, Or.inl (by decide)⟩
  exact pq_c_le this (cn + 1)
theorem rl_s0 {br : Nat → Nat} {B : Nat} {s0 s1 : pe_S} (hb : 1 ≤ B) (h0 : s0.1 = 0) (h1 : s1.1 = 0) : (pg_E kd wd sr od sk ru me si cn mn ps br B 0 s0 B).1 = (pg_E kd wd sr od sk ru me si cn mn ps br B 0 s1 B).1 := by
  obtain ⟨r, g1, g2⟩ := qf_E0 (kd := kd) (wd := wd) (sr := sr) (od := od) (sk := sk) (ru := ru) (me := me) (si := si) (cn := cn) (mn := mn) (ps := ps) (br := br) (bk := B) (s0 := s0) h0 hb B
  obtain ⟨r2, k1, k2⟩ := qf_E0 (kd := kd) (wd := wd) (sr := sr) (od := od) (sk := sk) (ru := ru) (me := me) (si := si) (cn := cn) (mn := mn) (ps := ps) (br := br) (bk := B) (s0 := s1) h1 hb B
  have e := qb_uni g2 k2
  subst e
  cases r with
  | none =>
    have g1 : (pg_E kd wd sr od sk ru me si cn mn ps br B 0 s0 B).1 = 0 := g1
    have k1 : (pg_E kd wd sr od sk ru me si cn mn ps br B 0 s1 B).1 = 0 := k1
    rw [g1, k1]
  | some z => rw [g1.1, k1.1]
theorem rl_no_of {s0 : pe_S} (h0 : s0.1 = 0) (hB : rl_B kd wd od cn ps ≤ 400) (h : ¬ 0 < (pg_E kd wd sr od sk ru me si cn mn ps (rl_r kd wd od cn ps) (rl_B kd wd od cn ps) 0 s0 (rl_B kd wd od cn ps)).1) : rl_no kd wd sr od sk ru me si cn mn ps := fun n z hn hz => by
  obtain ⟨r, g1, g2⟩ := qf_E0 (kd := kd) (wd := wd) (sr := sr) (od := od) (sk := sk) (ru := ru) (me := me) (si := si) (cn := cn) (mn := mn) (ps := ps) (br := rl_r kd wd od cn ps) (bk := rl_B kd wd od cn ps) (s0 := s0) h0 rl_B1 (rl_B kd wd od cn ps)
  cases r with
  | some y => have := g1.1; omega
  | none =>
    cases hx : qr_X kd wd sr od sk ru me si cn mn ps (rl_r kd wd od cn ps) n (rl_B kd wd od cn ps) z with
    | none => rfl
    | some y =>
      have hle := qr_le n (rl_B kd wd od cn ps) z hB hz y hx
      have : (qr_X kd wd sr od sk ru me si cn mn ps (rl_r kd wd od cn ps) ((4 * (n - 1) + z) / 4 + 1) (rl_B kd wd od cn ps) ((4 * (n - 1) + z) % 4)).map Prod.snd = none := g2 (4 * (n - 1) + z) (by omega)
      rw [show (4 * (n - 1) + z) / 4 + 1 = n by omega, show (4 * (n - 1) + z) % 4 = z by omega, hx] at this
      cases this
theorem rl_of {s0 : pe_S} {st : pe_S} {bc : Nat → Int64} (h0 : s0.1 = 0) (hB : rl_B kd wd od cn ps ≤ 400) (hn : 0 < (pg_E kd wd sr od sk ru me si cn mn ps (rl_r kd wd od cn ps) (rl_B kd wd od cn ps) 0 s0 (rl_B kd wd od cn ps)).1) (h : pt_tr kd wd sr od sk ru me si cn mn ps (rl_r kd wd od cn ps) (rl_B kd wd od cn ps) (pg_E kd wd sr od sk ru me si cn mn ps (rl_r kd wd od cn ps) (rl_B kd wd od cn ps) 0 s0 (rl_B kd wd od cn ps)).1 (ru 8).toInt st bc) :
    rl_way kd wd sr od sk ru me si cn mn ps st.1 st.2.1 (st.2.2.1, st.2.2.2.1, st.2.2.2.2) ∧ ∀ m9, 1 ≤ m9 → m9 ≤ st.1 → ∀ x, x < rl_B kd wd od cn ps → ∀ c9, c9 < 4 → ∀ y, pg_T kd wd sr od sk ru me si cn mn ps (rl_r kd wd od cn ps) m9 x c9 = some y → pm_bk (bc (pm_pc x m9)) c9 = y.2.2.2 := by
  obtain ⟨r1, r2, r3⟩ := qz_ref rl_B1 hB h
  obtain ⟨a, s1, h1, h2, h3, h4, h5⟩ := h
  refine ⟨⟨r1, r2, r3, _, hn, rl_s0 rl_B1 h0 rfl, ?_⟩, fun m9 k1 k2 => h4 m9 k1 (by omega) ?_⟩
  · rcases h5 with ⟨e1, e2, e3⟩ | ⟨e1, e2, e3, e4⟩
    · exact Or.inl ⟨e1, e3⟩
    · refine Or.inr ⟨r1, r2, ?_⟩
      rw [e3]; exact e4
  · rcases h5 with ⟨e1, e2, e3⟩ | ⟨e1, e2, e3, e4⟩
    · exact Or.inl e2
    · exact Or.inr (by omega)
theorem rl_3 {s0 : pe_S} (h3 : ps = 3) (h0 : s0.1 = 0) (hB : rl_B kd wd od cn ps ≤ 400) : 0 < (pg_E kd wd sr od sk ru me si cn mn ps (rl_r kd wd od cn ps) (rl_B kd wd od cn ps) 0 s0 (rl_B kd wd od cn ps)).1 := qv_33 h3 h0 rl_B1 hB
end RL2
