/-! the class's way and the reference's, in one pass -/
section RK
variable {kd wd sr od sk ru me si : Nat → Int32} {cn mn ps : Nat}
theorem rk_no : rl_no kd wd sr od sk ru me si cn mn ps ↔ ∀ n z, 1 ≤ n → z < 4 → (qm_X kd wd sr od sk ru me si cn mn ps (rl_r kd wd od cn ps)) n (rl_B kd wd od cn ps) z = none :=
  ⟨fun h n z hn hz => qz_none.mpr (h n z hn hz), fun h n z hn hz => qz_none.mp (h n z hn hz)⟩
theorem rk_min {m : Nat} (hB : (rl_B kd wd od cn ps) ≤ 400) (h : kw_min (qm_X kd wd sr od sk ru me si cn mn ps (rl_r kd wd od cn ps)) (rl_B kd wd od cn ps) m) : m = (pg_E kd wd sr od sk ru me si cn mn ps (rl_r kd wd od cn ps) (rl_B kd wd od cn ps) 0 (0, 0, 0, 0, 0) (rl_B kd wd od cn ps)).1 := by
  obtain ⟨h1, z, p, w, hz, hx, hmin⟩ := h
  exact ((qz_first (s0 := (0, 0, 0, 0, 0)) rfl rl_B1 hB).2 m z p w h1 hz hx hmin).symm
/-- a way of the reference is no empty pass -/
theorem rk_some {N z : Nat} {v : qx_V} (h : rl_way kd wd sr od sk ru me si cn mn ps N z v) : ¬ rl_no kd wd sr od sk ru me si cn mn ps := fun q => by
  obtain ⟨h1, _, ⟨hz, ⟨p, hp⟩, _⟩, _⟩ := h
  rw [q N z h1 hz] at hp
  cases hp
/-- the same number of lines, the same class -/
theorem rk_same {N z N2 z2 n0 GO : Nat} {v : qx_V} (hB : (rl_B kd wd od cn ps) ≤ 400) (h : rl_way kd wd sr od sk ru me si cn mn ps N z v) (hm : kw_min (qm_X kd wd sr od sk ru me si cn mn ps (rl_r kd wd od cn ps)) (rl_B kd wd od cn ps) n0) (hg : (GO : Int) = max 1 (min (((rl_B kd wd od cn ps) : Nat) : Int) ((n0 : Int) + (ru 8).toInt))) (hn : kw_num (qm_X kd wd sr od sk ru me si cn mn ps (rl_r kd wd od cn ps)) (rl_B kd wd od cn ps) n0 GO N2) (h1 : 1 ≤ N2) (h2 : N2 ≤ (rl_B kd wd od cn ps)) (hr : kw_row (qm_X kd wd sr od sk ru me si cn mn ps (rl_r kd wd od cn ps)) (rl_B kd wd od cn ps) N2 z2) : N2 = N ∧ z2 = z := by
  obtain ⟨w1, w2, w3, m0, w4, w5, w6⟩ := h
  have e0 : n0 = m0 := (rk_min hB hm).trans w5.symm
  subst e0
  have hmB : n0 ≤ (rl_B kd wd od cn ps) := by
    obtain ⟨_, y, p, w, hy, hx, _⟩ := hm
    obtain ⟨u, hu, _⟩ := qz_some.mp hx
    exact qr_le n0 (rl_B kd wd od cn ps) y hB hy _ hu
  have nos : ∀ k, 1 ≤ k → (pt_no (pg_T kd wd sr od sk ru me si cn mn ps (rl_r kd wd od cn ps)) (rl_B kd wd od cn ps) k ↔ ∀ z, z < 4 → (qm_X kd wd sr od sk ru me si cn mn ps (rl_r kd wd od cn ps)) k (rl_B kd wd od cn ps) z = none) := fun k hk => qz_no hk rl_B1
  have hN2 : ¬ pt_no (pg_T kd wd sr od sk ru me si cn mn ps (rl_r kd wd od cn ps)) (rl_B kd wd od cn ps) N2 := fun q => by
    obtain ⟨hz, p, w, hx, _⟩ := hr
    rw [(nos N2 h1).mp q z2 hz] at hx
    cases hx
  have hNN : ¬ pt_no (pg_T kd wd sr od sk ru me si cn mn ps (rl_r kd wd od cn ps)) (rl_B kd wd od cn ps) N := fun q => by
    obtain ⟨hz, ⟨p, hp⟩, _⟩ := w3
    have := (nos N w1).mp q z hz
    rw [qz_none.mp this] at hp
    cases hp
  have hn0 : ¬ pt_no (pg_T kd wd sr od sk ru me si cn mn ps (rl_r kd wd od cn ps)) (rl_B kd wd od cn ps) n0 := fun q => by
    obtain ⟨_, y, p, w, hy, hx, _⟩ := hm
    rw [(nos n0 w4).mp q y hy] at hx
    cases hx
  have eN : N2 = N := by
    refine qz_num (q := (ru 8).toInt) (goal := GO) rl_B1 w4 hmB hg (pt_no (pg_T kd wd sr od sk ru me si cn mn ps (rl_r kd wd od cn ps)) (rl_B kd wd od cn ps)) ⟨h1, h2, hN2⟩ hn0 ⟨hn.1, fun q => ⟨(hn.2.1 q).1, (hn.2.1 q).2.1, fun k k1 k2 => (nos k (by omega)).mpr ((hn.2.1 q).2.2 k k1 k2)⟩, fun q => ⟨(hn.2.2 q).1, (hn.2.2 q).2.1, fun k k1 k2 => (nos k (by omega)).mpr ((hn.2.2 q).2.2 k k1 k2)⟩⟩ ?_ hNN
    rcases w6 with ⟨a, b⟩ | ⟨a, b, c⟩
    · exact Or.inl ⟨a, b⟩
    · exact Or.inr ⟨a, b, c⟩
  refine ⟨eN, ?_⟩
  subst eN
  obtain ⟨hz, p, w, hx, hmin⟩ := hr
  obtain ⟨v2, hv2, _⟩ := qz_of hz hx hmin
  exact (qz_uni hv2 w3).1
end RK
/-! what all growing costs -/
def rp_f (most len : Nat) : Nat := if len < most then 2 * len else 3 * most
theorem rp_s {len need most : Nat} (hl : len ≤ most) (hn : need ≤ most) : kg_s len need most 1 + rp_f most len ≤ rp_f most (kg_n len need most) ∧ kg_n len need most ≤ most := by
  unfold kg_s kg_n rp_f
  by_cases h : need ≤ len
  · rw [if_pos h, if_pos h]
    omega
  · rw [if_neg h, if_neg h]
    by_cases h2 : len < most
    · rw [if_pos h2]
      by_cases h3 : max need (min most (2 * len)) < most
      · rw [if_pos h3]; omega
      · rw [if_neg h3]; omega
    · omega
theorem rp_k {len need most k : Nat} : kg_s len need most k = k * kg_s len need most 1 := by
  unfold kg_s
  split
  · rfl
  · rw [Nat.one_mul]
