/-! the law's room -/
theorem lz_rp (most len : Nat) : rp_f most len ≤ 3 * most := by
  unfold rp_f
  split <;> omega
theorem lz_lqP (lk lt lw zb zn : Nat) : lq_P lk lt lw zb zn ≤ 1980000 := by
  have a1 := lz_rp 401 lk
  have a2 := lz_rp 401 lt
  have a3 := lz_rp 641600 lw
  have a4 := lz_rp 1604 zb
  have a5 := lz_rp 1604 zn
  unfold lq_P
  omega
def lz_C (n : Nat) : Nat := 90 + 110 * n
def lz_S (lk lt lw zb zn ln lm ld n : Nat) : Nat := 210000 + lq_P lk lt lw zb zn + 9 * rp_f 4096 ln + rp_f 256 lm + 5 * rp_f 400 ld + 20 * n
theorem lz_Cb {n : Nat} (hn : n ≤ 511) : lz_C n + 110 ≤ 600000 := by
  unfold lz_C
  omega
theorem lz_Sb {lk lt lw zb zn ln lm ld n : Nat} (hn : n ≤ 512) : lz_S lk lt lw zb zn ln lm ld n + 4000000 ≤ 7290000 := by
  have a1 := lz_lqP lk lt lw zb zn
  have a2 := lz_rp 4096 ln
  have a3 := lz_rp 256 lm
  have a4 := lz_rp 400 ld
  unfold lz_S
  omega
section LS
variable {lk lt lw zb zn ln lm ld n cn ln2 lm2 ld2 lk2 lt2 lw2 zb2 zn2 : Nat}
theorem lz_ri (hc : cn < 4096) (hl : ln ≤ 4096) : kg_s ln (cn + 1) 4096 9 + kg_c ln (cn + 1) 4 ≤ 4000000 := by
  have a := (rp_s hl (show cn + 1 ≤ 4096 by omega)).1
  have b := lz_rp 4096 (kg_n ln (cn + 1) 4096)
  have c : kg_c ln (cn + 1) 4 ≤ 4 := lq_c
  rw [rp_k (k := 9)]
  omega
theorem lz_Si (hc : cn < 4096) (hl : ln ≤ 4096) (e : ln2 = kg_n ln (cn + 1) 4096) : lz_S lk lt lw zb zn ln lm ld n + (kg_s ln (cn + 1) 4096 9 + kg_c ln (cn + 1) 4) ≤ lz_S lk lt lw zb zn ln2 lm ld (n + 1) := by
  have a := (rp_s hl (show cn + 1 ≤ 4096 by omega)).1
  have c : kg_c ln (cn + 1) 4 ≤ 4 := lq_c
  rw [rp_k (k := 9), e]
  unfold lz_S
  omega
theorem lz_Ci {need : Nat} (h : need ≤ 110) : lz_C n + need ≤ lz_C (n + 1) := by
  unfold lz_C
  omega
theorem lz_S0 : lz_S lk lt lw zb zn ln lm ld n ≤ lz_S lk lt lw zb zn ln lm ld (n + 1) := by
  unfold lz_S
  omega
theorem lz_S6 : lz_S lk lt lw zb zn ln lm ld n + 6 ≤ lz_S lk lt lw zb zn ln lm ld (n + 1) := by
  unfold lz_S
  omega
theorem lz_rm {k9 w : Int32} {mc : Nat} (hm : mc ≤ 256) (hl : lm ≤ 256) : kg_s lm (if pm_ms mc k9 w then k9.toNatClampNeg else 0) 256 1 ≤ 4000000 := by
  by_cases q : pm_ms mc k9 w
  · rw [if_pos q]
    obtain ⟨_, _, k3⟩ := kn_box1 (n := 256) (by decide) q.1.1 q.2.1
    have a := (rp_s hl k3).1
    have b := lz_rp 256 (kg_n lm k9.toNatClampNeg 256)
    omega
  · rw [if_neg q]
    unfold kg_s
    rw [if_pos (Nat.zero_le _)]
    omega
theorem lz_Sm {k9 w : Int32} {mc mc2 : Nat} {ms ms2 : Nat → Int32} {P : Prop} (hm : mc ≤ 256) (hl : lm ≤ 256)
    (a : if pm_ms mc k9 w then mc2 = k9.toNatClampNeg ∧ lm2 = kg_n lm k9.toNatClampNeg 256 ∧ (∀ j, j < lm → ¬ j = k9.toNatClampNeg - 1 → ms2 j = ms j) ∧ ms2 (k9.toNatClampNeg - 1) = w else P ∧ mc2 = mc ∧ lm2 = lm ∧ ms2 = ms) :
    lz_S lk lt lw zb zn ln lm ld n + kg_s lm (if pm_ms mc k9 w then k9.toNatClampNeg else 0) 256 1 ≤ lz_S lk lt lw zb zn ln lm2 ld (n + 1) := by
  by_cases q : pm_ms mc k9 w
  · rw [if_pos q] at a ⊢
    obtain ⟨_, _, k3⟩ := kn_box1 (n := 256) (by decide) q.1.1 q.2.1
    have b := (rp_s hl k3).1
    rw [a.2.1]
    unfold lz_S
    omega
  · rw [if_neg q] at a ⊢
    unfold kg_s
    rw [if_pos (Nat.zero_le _), a.2.2.1]
    unfold lz_S
    omega
theorem lz_rl {F P NL : Nat} (hF : F ≤ 1980000) (hl : ld ≤ 400) (hN : NL ≤ 400) : F - P + kg_s ld NL 400 5 ≤ 4000000 := by
  have a := (rp_s hl hN).1
  have b := lz_rp 400 (kg_n ld NL 400)
  rw [rp_k (k := 5)]
  omega
theorem lz_Sl {F NL : Nat} (hl : ld ≤ 400) (hN : NL ≤ 400) (e : ld2 = kg_n ld NL 400) (hF : lq_P lk2 lt2 lw2 zb2 zn2 = F) (hle : lq_P lk lt lw zb zn ≤ lq_P lk2 lt2 lw2 zb2 zn2) : lz_S lk lt lw zb zn ln lm ld n + (F - lq_P lk lt lw zb zn + kg_s ld NL 400 5) ≤ lz_S lk2 lt2 lw2 zb2 zn2 ln lm ld2 (n + 1) := by
  have a := (rp_s hl hN).1
  rw [rp_k (k := 5), e]
  unfold lz_S
  omega
theorem lz_LF {Fk Ft Fw Fz : Nat → Nat} {f pe LL : Nat} : lq_F Fk Ft Fw Fz lk lt lw zb zn f pe LL ≤ 1980000 := lz_lqP _ _ _ _ _
end LS
theorem lz_a1 {a k c M : Nat} (h : a + c ≤ M) (hk : k ≤ c) : a + k ≤ M := by omega
theorem lz_a2 {a k c M : Nat} (h : a + c ≤ M) (hk : k ≤ c) : a + k + 0 ≤ M := by omega
theorem lz_a0 {a c M : Nat} (h : a + c ≤ M) : a + 0 ≤ M := by omega
/-- the end of the script -/
theorem lz_end {n L : Nat} (hn : n ≤ 512) (hL : L ≤ 3072) : nI L - nI 6 < nI (6 * n) ↔ ¬ 6 * n + 6 ≤ L := by
  rw [Int32.lt_iff_toInt_lt, pk_sub_toInt (by omega) (by omega), nI_toInt (by omega)]
  omega
theorem lz_pq (P : Nat → Prop) [DecidablePred P] : ∀ N, pq_c P N ≤ N
  | 0 => Nat.le_refl _
  | N + 1 => by
    have := lz_pq P N
    by_cases h : P N
    · rw [pq_c_s h]; omega
    · rw [pq_c_n h]; omega
theorem lz_og {x : Int32} (h : ∃ j, j ≤ 3 ∧ x = nI j) : x = nI x.toNatClampNeg ∧ x.toNatClampNeg ≤ 3 := by
  obtain ⟨j, h1, rfl⟩ := h
  rw [nI_clamp (by omega)]
  exact ⟨rfl, h1⟩
/-- what was made, behind both lines -/
theorem lz_omk {ps wc ld ld2 NL mpM mlM : Nat} {mv mbM : Int32} {md mo mdM moM : Int64} {g0 g1 g2 g3 g4 E0 E1 E2 E3 E4 mr : Nat → Int32} {mq : Nat → Int64} (hl : ld ≤ 400) (hN : NL ≤ 400) (a1 : mpM = ps) (a0 : wc = NL) (a2 : mlM = wc) (a3 : mbM = mv) (a4 : mdM = md) (a5 : moM = mo) (a6 : ld2 = kg_n ld NL 400) (b : ∀ q, q < NL → g0 q = E0 q ∧ g1 q = E1 q ∧ g2 q = E2 q ∧ g3 q = E3 q ∧ g4 q = E4 q)
    (c : ∀ k, 1 ≤ k → k ≤ NL → mr (4 * k - 4) = E0 (k - 1) ∧ mr (4 * k - 3) = E1 (k - 1) ∧ mr (4 * k - 2) = E2 (k - 1) ∧ mr (4 * k - 1) = E3 (k - 1) ∧ lz_k (mq k) = E4 (k - 1)) : lz_o ps wc mv md mo ld2 g0 g1 g2 g3 g4 mpM mlM mbM mdM moM mr mq := by
  refine ⟨?_, ?_, ?_, ?_, ?_, ?_, ?_, ?_⟩
  · exact a1
  · exact a2
  · exact a3
  · exact a4
  · exact a5
  · exact by rw [a0, a6]; unfold kg_n; split <;> omega
  · exact by rw [a6]; exact (rp_s hl hN).2
  · exact fun k k1 k2 => by
      obtain ⟨b0, b1, b2, b3, b4⟩ := b (k - 1) (by omega)
      obtain ⟨c0, c1, c2, c3, c4⟩ := c k k1 (by omega)
      exact ⟨c0.trans b0.symm, c1.trans b1.symm, c2.trans b2.symm, c3.trans b3.symm, c4.trans b4.symm⟩
