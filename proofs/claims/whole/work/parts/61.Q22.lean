/-! what findWay is told of the ways, and what it says -/
section KW
def kw_Q (d : kj_D) (B : Nat) (QX : Nat → Nat → Nat → Option (Nat × qx_V)) : Prop := kq_X d B QX ∧ ∀ (Y : Nat → Nat → ke_R) (op : Prop) [Decidable op], op → (∀ b z, b ≤ B → z < 4 → qb_is ke_T (kz_K d (min B d.mc) (kq_P QX (min B d.mc - 1)) Y op b z) (8 * b) (Y b z)) → ∃ G : qx_V → Prop, qy_H (qx_lt 3) G B (min B d.mc) QX Y (kj_cl d) (kj_st d)
/-- z is the best class at the end of N lines -/
def kw_row (QX : Nat → Nat → Nat → Option (Nat × qx_V)) (B N z : Nat) : Prop := z < 4 ∧ ∃ p w, QX N B z = some (p, w) ∧ ∀ z2, z2 < 4 → ∀ q v, QX N B z2 = some (q, v) → ¬ qx_lt 3 v w ∧ (z2 < z → qx_lt 3 w v)
/-- m lines are the best of all -/
def kw_min (QX : Nat → Nat → Nat → Option (Nat × qx_V)) (B m : Nat) : Prop := 1 ≤ m ∧ ∃ z p w, z < 4 ∧ QX m B z = some (p, w) ∧ ∀ n z2, 1 ≤ n → z2 < 4 → ∀ q v, QX n B z2 = some (q, v) → ¬ qx_lt 3 v w ∧ (n < m → qx_lt 3 w v) ∧ (n = m → z2 < z → qx_lt 3 w v)
/-- N is the nearest to the goal -/
def kw_num (QX : Nat → Nat → Nat → Option (Nat × qx_V)) (B m goal N : Nat) : Prop := (goal = m → N = m) ∧ (m < goal → m ≤ N ∧ N ≤ goal ∧ ∀ k, N < k → k ≤ goal → ∀ z, z < 4 → QX k B z = none) ∧ (goal < m → goal ≤ N ∧ N ≤ m ∧ ∀ k, goal ≤ k → k < N → ∀ z, z < 4 → QX k B z = none)
variable {d : kj_D} {QX : Nat → Nat → Nat → Option (Nat × qx_V)} {bn pl ly le : Nat} {Y : Nat → Nat → ke_R} {re : Nat → ke_R} {rb : ke_R} {bk ec : Nat → Int32} {wl : Nat}
/-- behind the first search -/
theorem kwy_1 {op : Prop} [Decidable op] (hQ : kw_Q d bn QX) (hop : op) (h : kq_S d QX op bn pl (min bn d.mc) le (min bn d.mc + 1) Y re rb bk ec wl) (hly : 1 ≤ min bn d.mc) (hpl : (bn + 1) * 4 ≤ pl) : (rb = none → ∀ n z, 1 ≤ n → z < 4 → QX n bn z = none) ∧ ∀ i w m, rb = some (i, w, m) → kw_min QX bn m ∧ wl ≤ min bn d.mc ∧ m ≤ bn ∧ ∃ z, kw_row QX bn m z ∧ ec wl = nI z ∧ kt_ok bk pl QX m wl bn z := by
  obtain ⟨G, hy⟩ := hQ.2 Y op hop (h.opn hop (by omega)).1
  obtain ⟨h1, h2⟩ := kq_open h hQ.1 hop hly hpl hy
  refine ⟨h1, fun i w m e => ?_⟩
  obtain ⟨z, hz, hi, hec, hwl, hm, ⟨p, hp⟩, hk, hmin⟩ := h2 i m w e
  refine ⟨⟨hm, z, p, w, hz, hp, hmin⟩, by omega, kq_le hQ.1 m bn z (Nat.le_refl _) _ hp, z, ⟨hz, p, w, hp, fun z2 hz2 q v hv => ⟨(hmin m z2 hm hz2 q v hv).1, (hmin m z2 hm hz2 q v hv).2.2 rfl⟩⟩, ?_, ?_⟩
  · rw [hwl]; exact hec
  · rw [hwl]; exact hk
/-- behind the second search -/
theorem kwy_2 {op : Prop} [Decidable op] {m goal N : Nat} (hX : kq_X d bn QX) (hop : ¬ op) (h : kq_S d QX op bn pl ly le (ly + 1) Y re rb bk ec wl) (hpl : (bn + 1) * 4 ≤ pl) (hly : ly = max goal m) (hm : kw_min QX bn m) (hg1 : 1 ≤ goal)
    (hN : (goal = m → N = m) ∧ (m < goal → m ≤ N ∧ N ≤ goal ∧ ∀ j, N < j → j ≤ goal → ec j = (-1)) ∧ (goal < m → goal ≤ N ∧ N ≤ m ∧ ∀ j, goal ≤ j → j < N → ec j = (-1)) ∧ (¬ N = m → ¬ ec N = (-1))) :
    kw_num QX bn m goal N ∧ 1 ≤ N ∧ N ≤ ly ∧ ∃ z, kw_row QX bn N z ∧ ec N = nI z ∧ kt_ok bk pl QX N N bn z := by
  have hno : ∀ k, 1 ≤ k → k ≤ ly → ec k = (-1) → ∀ z, z < 4 → QX k bn z = none := fun k h1 h2 h3 => by
    rcases kq_clos h hX hop hpl h1 h2 with ⟨_, q⟩ | ⟨z, p, w, hz, he, _⟩
    · exact q
    · exact absurd (he.symm.trans h3) (ke_m1 (by omega))
  obtain ⟨n1, n2, n3, n4⟩ := hN
  have hm1 := hm.1
  have hNb : 1 ≤ N ∧ N ≤ ly := by
    rcases Nat.lt_trichotomy goal m with q | q | q
    · have := n3 q; omega
    · have := n1 q; omega
    · have := n2 q; omega
  refine ⟨⟨n1, fun q => ⟨(n2 q).1, (n2 q).2.1, fun k k1 k2 => hno k (by omega) (by omega) ((n2 q).2.2 k k1 k2)⟩, fun q => ⟨(n3 q).1, (n3 q).2.1, fun k k1 k2 => hno k (by omega) (by omega) ((n3 q).2.2 k k1 k2)⟩⟩, hNb.1, hNb.2, ?_⟩
  rcases kq_clos h hX hop hpl hNb.1 hNb.2 with ⟨q1, q2⟩ | ⟨z, p, w, hz, he, hp, hk, hmin⟩
  · by_cases e : N = m
    · obtain ⟨_, z, p, w, hz, hp, _⟩ := hm
      rw [e, ] at q2
      rw [q2 z hz] at hp
      cases hp
    · exact absurd q1 (n4 e)
  · exact ⟨z, ⟨hz, p, w, hp, hmin⟩, he, hk⟩
end KW
section KW2
variable {ik ic ia ib fl ru : Nat → Int32} {cn : Nat} {au : Int32} {B : Nat} {bi bo ba bb bg bl bh : Nat → Int32}
theorem kg_y (h : kg_out ik ic ia ib fl ru cn au B bi bo ba bb bg bl bh) {y : Nat} (h1 : 1 ≤ y) (h2 : y ≤ B) : (∃ k, k < cn ∧ pk_br ik ic fl cn au k ∧ pq_c (pk_br ik ic fl cn au) k + 1 = y) ∨ y = B := by
  have hc := h.cnt
  rcases Nat.lt_or_ge (y - 1) (pq_c (pk_br ik ic fl cn au) cn) with q | q
  · obtain ⟨s1, s2, s3⟩ := pq_p_spec (P := pk_br ik ic fl cn au) cn (y - 1) q
    exact Or.inl ⟨_, s2, s1, by omega⟩
  · exact Or.inr (by omega)
theorem kg_ti (h : kg_out ik ic ia ib fl ru cn au B bi bo ba bb bg bl bh) (hc : cn < 2 ^ 20) : ∀ q, q ≤ B → 1 ≤ q → bi q = nI (bi q).toNatClampNeg ∧ (bi q).toNatClampNeg ≤ cn := fun q h2 h1 => by
  rcases kg_y h h1 h2 with ⟨k, k1, k2, k3⟩ | e
  · have := (h.rows k k1 k2).1
    rw [k3] at this
    rw [this, nI_clamp (by omega)]
    exact ⟨rfl, by omega⟩
  · rw [e, h.fin.1, nI_clamp (by omega)]
    exact ⟨rfl, Nat.le_refl _⟩
theorem kg_tg (h : kg_out ik ic ia ib fl ru cn au B bi bo ba bb bg bl bh) (hc : cn < 2 ^ 19) : ∀ q, q ≤ B → bg q = nI (bg q).toNatClampNeg ∧ (bg q).toNatClampNeg < 2 ^ 20 := fun q h2 => by
  rcases Nat.eq_zero_or_pos q with e | h1
  · rw [e, h.front.1, nI_clamp (by omega)]
    exact ⟨rfl, by omega⟩
  · rcases kg_y h h1 h2 with ⟨k, k1, k2, k3⟩ | e
    · have := (h.rows k k1 k2).2.2.2.2.2
      rw [k3] at this
      have hq := (qk_sp (kd := ik) k1).2.1
      have hlt : (if pk_fl ik fl cn k (nI 2) then k + 1 else qk_n ik k cn) < 2 ^ 20 := by split <;> omega
      rw [this, nI_clamp (by omega)]
      exact ⟨rfl, hlt⟩
    · rw [e, h.fin.2.2.2.2.2, nI_clamp (by omega)]
      exact ⟨rfl, by omega⟩
theorem kg_lo (h : kg_out ik ic ia ib fl ru cn au B bi bo ba bb bg bl bh) (hB : B ≤ 400) : ∀ q, q ≤ B → 1 ≤ q → bl q = nI (bl q).toNatClampNeg ∧ (bl q).toNatClampNeg < q := fun q h2 h1 => by
  obtain ⟨lo, hlo⟩ := h.low
  obtain ⟨g1, g2, _⟩ := hlo q h1 h2
  rw [g1, nI_clamp (by omega)]
  exact ⟨rfl, g2⟩
end KW2
theorem kw_goal {B m GO : Nat} {q : Int32} (hB : B ≤ 400) (hm : m ≤ 400) (h1 : -10000 ≤ q.toInt) (h2 : q.toInt ≤ 10000) (h : (GO : Int) = max 1 (min (B : Int) ((m : Int) + q.toInt))) : (if nI 1 < (if nI m + q < nI B then nI m + q else nI B) then (if nI m + q < nI B then nI m + q else nI B) else nI 1) = nI GO := by
  have e := pt_add (n := m) hm h1 h2
  have hB1 := nI_toInt (n := B) (by omega)
  have h11 := nI_toInt (n := 1) (by omega)
  have hG : GO ≤ 400 ∨ GO ≤ 1 := by omega
  apply Int32.toInt_inj.mp
  rw [nI_toInt (n := GO) (by omega)]
  by_cases a : nI m + q < nI B
  · rw [if_pos a]
    rw [Int32.lt_iff_toInt_lt, e, hB1] at a
    by_cases b : nI 1 < nI m + q
    · rw [if_pos b, e]
      rw [Int32.lt_iff_toInt_lt, e, h11] at b
      omega
    · rw [if_neg b, h11]
      rw [Int32.lt_iff_toInt_lt, e, h11] at b
      omega
  · rw [if_neg a]
    rw [Int32.lt_iff_toInt_lt, e, hB1] at a
    by_cases b : nI 1 < nI B
    · rw [if_pos b, hB1]
      rw [Int32.lt_iff_toInt_lt, hB1, h11] at b
      omega
    · rw [if_neg b, h11]
      rw [Int32.lt_iff_toInt_lt, hB1, h11] at b
      omega
