/-! no sum runs over -/
def qn_b (x : Int64) (k : Int) : Prop := -k ≤ x.toInt ∧ x.toInt ≤ k
theorem qn_w {x : Int64} {j k : Int} (h : qn_b x j) (hk : j ≤ k) : qn_b x k := ⟨by have := h.1; omega, by have := h.2; omega⟩
theorem qn_s {x : Int} (h1 : -(2 ^ 63) ≤ x) (h2 : x < 2 ^ 63) : x.bmod (2 ^ 64) = x := Int.bmod_eq_of_le (by omega) (by omega)
theorem qn_addI {x y : Int64} {j k : Int} (h : qn_b x j) (h2 : qn_b y k) (hk : j + k ≤ 2 ^ 62) : (x + y).toInt = x.toInt + y.toInt := by
  obtain ⟨a, b⟩ := h
  obtain ⟨a2, b2⟩ := h2
  rw [Int64.toInt_add]
  exact qn_s (by omega) (by omega)
theorem qn_add {x y : Int64} {j k : Int} (h : qn_b x j) (h2 : qn_b y k) (hk : j + k ≤ 2 ^ 62) : qn_b (x + y) (j + k) := by
  have e := qn_addI h h2 hk
  obtain ⟨a, b⟩ := h
  obtain ⟨a2, b2⟩ := h2
  exact ⟨by rw [e]; omega, by rw [e]; omega⟩
theorem qn_subI {x y : Int64} {j k : Int} (h : qn_b x j) (h2 : qn_b y k) (hk : j + k ≤ 2 ^ 62) : (x - y).toInt = x.toInt - y.toInt := by
  obtain ⟨a, b⟩ := h
  obtain ⟨a2, b2⟩ := h2
  rw [Int64.toInt_sub]
  exact qn_s (by omega) (by omega)
theorem qn_sub {x y : Int64} {j k : Int} (h : qn_b x j) (h2 : qn_b y k) (hk : j + k ≤ 2 ^ 62) : qn_b (x - y) (j + k) := by
  have e := qn_subI h h2 hk
  obtain ⟨a, b⟩ := h
  obtain ⟨a2, b2⟩ := h2
  exact ⟨by rw [e]; omega, by rw [e]; omega⟩
theorem qn_negI {x : Int64} {j : Int} (h : qn_b x j) (hk : j ≤ 2 ^ 62) : (-x).toInt = -x.toInt := by
  obtain ⟨a, b⟩ := h
  rw [Int64.toInt_neg]
  exact qn_s (by omega) (by omega)
theorem qn_neg {x : Int64} {j : Int} (h : qn_b x j) (hk : j ≤ 2 ^ 62) : qn_b (-x) j := by
  have e := qn_negI h hk
  obtain ⟨a, b⟩ := h
  exact ⟨by rw [e]; omega, by rw [e]; omega⟩
theorem qn_32 (x : Int32) : qn_b x.toInt64 (2 ^ 31) := by
  have h1 := Int32.le_toInt x
  have h2 := Int32.toInt_lt x
  refine ⟨?_, ?_⟩ <;> rw [Int32.toInt_toInt64] <;> omega
theorem qn_0 {k : Int} (h : 0 ≤ k) : qn_b 0 k := by
  refine ⟨?_, ?_⟩ <;> rw [show (0 : Int64).toInt = 0 from rfl] <;> omega
theorem qn_if {P : Prop} [Decidable P] {x y : Int64} {k : Int} (h : qn_b x k) (h2 : qn_b y k) : qn_b (if P then x else y) k := by
  split
  · exact h
  · exact h2
theorem qn_rs {f : Nat → Int64} {b : Nat} (h : ∀ i, qn_b (f i) (2 ^ 31)) : ∀ d, d ≤ 4100 → qn_b (pm_rs f b d) (d * 2 ^ 31)
  | 0, _ => qn_0 (by omega)
  | d + 1, hd => by
    have ih := qn_rs (b := b) h d (by omega)
    have := qn_add ih (h (b - d - 1)) (by omega)
    exact qn_w this (by omega)
theorem qn_it (kd wd sr od sk : Nat → Int32) (i k : Nat) : qn_b (pm_it kd wd sr od sk i k) (2 ^ 31) := by
  have z : qn_b 0 (2 ^ 31) := qn_0 (by omega)
  unfold pm_it
  exact qn_if (qn_if z (qn_32 _)) (qn_if (qn_if (qn_32 _) (qn_if (qn_32 _) z)) z)
theorem qn_sv {kd wd sr od sk : Nat → Int32} {b bg : Nat} (hb : b ≤ 4096) (q : Nat) : qn_b (pm_sv kd wd sr od sk b bg q) (2 ^ 44) := by
  unfold pm_sv
  exact qn_w (qn_rs (fun i => qn_it kd wd sr od sk i q) (b - bg) (by omega)) (by omega)
theorem qn_lo {S : Nat → Int64} {si : Nat → Int32} {ad be : Int64} {mw : Int32} (h : ∀ q, qn_b (S q) (2 ^ 44)) (ha : qn_b ad (2 ^ 31)) (hb : qn_b be (2 ^ 31)) : 0 ≤ (pl_O S si ad be mw).toInt ∧ (pl_O S si ad be mw).toInt ≤ 2 ^ 50 := by
  have e1 : qn_b (pm_ex S si ad be mw) (2 ^ 45) := by
    unfold pm_ex
    exact qn_w (qn_sub (qn_32 _) (qn_add (qn_add (qn_add (qn_add (h 0) (qn_32 _) (by omega)) (qn_32 _) (by omega)) ha (by omega)) hb (by omega)) (by omega)) (by omega)
  have e2 : qn_b (pm_le S si) (2 ^ 45) := by
    unfold pm_le
    exact qn_w (qn_add (qn_add (h 5) (qn_32 _) (by omega)) (qn_32 _) (by omega)) (by omega)
  unfold pl_O pm_lo
  generalize pm_ex S si ad be mw = x at *
  generalize pm_le S si = y at *
  have z0 : (0 : Int64).toInt = 0 := rfl
  split
  · split
    · rw [z0]; omega
    · rename_i h2
      have n1 := qn_neg e1 (by omega)
      have n2 := qn_negI e1 (by omega)
      have n3 := qn_subI n1 e2 (by omega)
      rw [Int64.le_iff_toInt_le, n2] at h2
      obtain ⟨a, b⟩ := e1
      obtain ⟨a2, b2⟩ := e2
      rw [n3, n2]
      omega
  · rw [z0]; omega
theorem qn_sq {x : Int64} (h : qn_b x 10000) : qn_b (x * x) 100000000 := by
  obtain ⟨a, b⟩ := h
  have h0 : 0 ≤ x.toInt * x.toInt ∧ x.toInt * x.toInt ≤ 100000000 := by
    rcases Int.le_total 0 x.toInt with q | q
    · exact ⟨Int.mul_nonneg q q, Int.le_trans (Int.mul_le_mul b b q (by omega)) (by omega)⟩
    · have q2 : 0 ≤ -x.toInt := by omega
      have q3 : -x.toInt ≤ 10000 := by omega
      rw [← Int.neg_mul_neg]
      exact ⟨Int.mul_nonneg q2 q2, Int.le_trans (Int.mul_le_mul q3 q3 q2 (by omega)) (by omega)⟩
  have e : (x * x).toInt = x.toInt * x.toInt := by
    rw [Int64.toInt_mul]
    exact qn_s (by omega) (by omega)
  exact ⟨by rw [e]; omega, by rw [e]; omega⟩
theorem qn_d0 (s : Int32) : qn_b (pm_d0 s) 100000000 := by
  have k : qn_b 100000000 100000000 := by
    refine ⟨?_, ?_⟩ <;> rw [show (100000000 : Int64).toInt = 100000000 by decide +kernel] <;> omega
  unfold pm_d0
  by_cases h1 : nI 10000 ≤ s
  · rw [if_pos h1]; exact k
  · rw [if_neg h1]
    by_cases h2 : (-10000) < s
    · rw [if_pos h2]
      apply qn_sq
      rw [Int32.le_iff_toInt_le, nI_toInt (by omega)] at h1
      rw [Int32.lt_iff_toInt_lt, show ((-10000) : Int32).toInt = -10000 by decide +kernel] at h2
      refine ⟨?_, ?_⟩ <;> rw [Int32.toInt_toInt64] <;> omega
    · rw [if_neg h2]; exact k
theorem qn_d1 {p : Int32} (h : p.toInt ≤ 10000) : qn_b (pm_d1 p) 100000000 := by
  unfold pm_d1
  have z : qn_b 0 100000000 := qn_0 (by omega)
  by_cases h1 : p ≤ 0
  · rw [if_pos h1]
    by_cases h2 : p ≤ (-10000)
    · rw [if_pos h2]; exact z
    · rw [if_neg h2, Int64.neg_mul]
      refine qn_neg (qn_sq ?_) (by omega)
      rw [Int32.le_iff_toInt_le, show (0 : Int32).toInt = 0 from rfl] at h1
      rw [Int32.le_iff_toInt_le, show ((-10000) : Int32).toInt = -10000 by decide +kernel] at h2
      refine ⟨?_, ?_⟩ <;> rw [Int32.toInt_toInt64] <;> omega
  · rw [if_neg h1]
    apply qn_sq
    rw [Int32.le_iff_toInt_le, show (0 : Int32).toInt = 0 from rfl] at h1
    refine ⟨?_, ?_⟩ <;> rw [Int32.toInt_toInt64] <;> omega
theorem qn_cost {ru : Nat → Int32} {lb p : Int32} {lc was : Nat} {hb hf en : Prop} [Decidable hb] [Decidable hf] [Decidable en] (h : p.toInt ≤ 10000) : qn_b (pm_cost ru lb p lc was hb hf en) (2 ^ 40) := by
  have z : qn_b 0 (2 ^ 31) := qn_0 (by omega)
  unfold pm_cost
  refine qn_w (qn_add (qn_add (qn_add (qn_add (qn_d0 _) (qn_d1 h) (by omega)) (qn_if (qn_if (qn_32 _) z) z) (by omega)) (qn_if (qn_if (qn_32 _) z) z) (by omega)) (qn_if (qn_32 _) z) (by omega)) (by omega)
/-- bounded weights, and that a line more keeps their order -/
def qn_G (n : Int) (v : qx_V) : Prop := (0 ≤ v.1.toInt ∧ v.1.toInt ≤ n * 2 ^ 50) ∧ (0 ≤ v.2.1.toInt ∧ v.2.1.toInt ≤ n) ∧ qn_b v.2.2 (n * 2 ^ 50)
theorem qn_abI (b t : Int32) : (nI (pm_ab b t)).toInt = 0 ∨ (nI (pm_ab b t)).toInt = 1 := by
  unfold pm_ab
  split
  · exact Or.inl rfl
  · exact Or.inr rfl
theorem qn_add32 {x y : Int32} (h : 0 ≤ x.toInt ∧ x.toInt ≤ 1000) (h2 : y.toInt = 0 ∨ y.toInt = 1) : (x + y).toInt = x.toInt + y.toInt := by
  rw [Int32.toInt_add]
  exact Int.bmod_eq_of_le (by omega) (by omega)
section QN
variable {kd wd sr od sk ru me si : Nat → Int32} {cn mn ps : Nat} {br : Nat → Nat}
abbrev qn_H (kd wd od ru : Nat → Int32) (cn B : Nat) (br : Nat → Nat) : Prop := (cn ≤ 4096) ∧ (B ≤ 400) ∧ (∀ x, x < B → br x ≤ cn) ∧ (∀ x, x < B → (pm_pen kd wd od ru cn (br x)).toInt ≤ 10000)
theorem qn_H.hc {kd wd od ru : Nat → Int32} {cn B : Nat} {br : Nat → Nat} (h : qn_H kd wd od ru cn B br) : cn ≤ 4096 := h.1
theorem qn_H.hB {kd wd od ru : Nat → Int32} {cn B : Nat} {br : Nat → Nat} (h : qn_H kd wd od ru cn B br) : B ≤ 400 := h.2.1
theorem qn_H.hbr {kd wd od ru : Nat → Int32} {cn B : Nat} {br : Nat → Nat} (h : qn_H kd wd od ru cn B br) : ∀ x, x < B → br x ≤ cn := h.2.2.1
theorem qn_H.hp {kd wd od ru : Nat → Int32} {cn B : Nat} {br : Nat → Nat} (h : qn_H kd wd od ru cn B br) : ∀ x, x < B → (pm_pen kd wd od ru cn (br x)).toInt ≤ 10000 := h.2.2.2
theorem qn_O {B k a b : Nat} (h : qn_H kd wd od ru cn B br) (hb : b ≤ B) (hb1 : 1 ≤ b) : 0 ≤ (qr_O kd wd sr od sk me si cn mn br k a b).toInt ∧ (qr_O kd wd sr od sk me si cn mn br k a b).toInt ≤ 2 ^ 50 := by
  have z : qn_b 0 (2 ^ 31) := qn_0 (by omega)
  have hb4 : br (b - 1) ≤ 4096 := Nat.le_trans (h.hbr _ (by omega)) h.hc
  unfold qr_O
  refine qn_lo (fun q => qn_sv hb4 q) ?_ ?_
  · unfold qr_ad; exact qn_if (qn_32 _) z
  · unfold qr_be; exact qn_if z (qn_if (qn_32 _) z)
theorem qn_D {B k a b c : Nat} (h : qn_H kd wd od ru cn B br) (hb : b ≤ B) (hb1 : 1 ≤ b) : qn_b (qr_D kd wd sr od sk ru me si cn mn br k a b c) (2 ^ 40) := qn_cost (h.hp _ (by omega))
theorem qn_st {B k a b c : Nat} {n : Int} {v : qx_V} (h : qn_H kd wd od ru cn B br) (hb : b ≤ B) (hb1 : 1 ≤ b) (hn : n ≤ 401) (hv : qn_G n v) : ((qr_st kd wd sr od sk ru me si cn mn br) k a b c v).1.toInt = v.1.toInt + (qr_O kd wd sr od sk me si cn mn br k a b).toInt ∧ ((qr_st kd wd sr od sk ru me si cn mn br) k a b c v).2.1.toInt = v.2.1.toInt + (nI (pm_ab (qr_B kd wd sr od sk me si cn mn br k a b) (ru 1))).toInt ∧ ((qr_st kd wd sr od sk ru me si cn mn br) k a b c v).2.2.toInt = v.2.2.toInt + (qr_D kd wd sr od sk ru me si cn mn br k a b c).toInt := by
  obtain ⟨⟨v1, v2⟩, ⟨v3, v4⟩, v5⟩ := hv
  obtain ⟨o1, o2⟩ := qn_O (k := k) (a := a) (sr := sr) (sk := sk) (me := me) (si := si) (mn := mn) h hb hb1
  have d := qn_D (k := k) (a := a) (c := c) (sr := sr) (sk := sk) (me := me) (si := si) (mn := mn) h hb hb1
  refine ⟨?_, ?_, ?_⟩
  · exact qn_addI (j := 2 ^ 60) (k := 2 ^ 60) ⟨by omega, by omega⟩ ⟨by omega, by omega⟩ (by omega)
  · exact qn_add32 ⟨v3, by omega⟩ (qn_abI _ _)
  · exact qn_addI (qn_w v5 (show n * 2 ^ 50 ≤ 2 ^ 60 by omega)) d (by omega)
theorem qn_stG {B k a b c : Nat} {n : Int} {v : qx_V} (h : qn_H kd wd od ru cn B br) (hb : b ≤ B) (hb1 : 1 ≤ b) (hn : n ≤ 401) (hv : qn_G n v) : qn_G (n + 1) ((qr_st kd wd sr od sk ru me si cn mn br) k a b c v) := by
  obtain ⟨e1, e2, e3⟩ := qn_st (k := k) (a := a) (c := c) (sr := sr) (sk := sk) (me := me) (si := si) (mn := mn) h hb hb1 hn hv
  obtain ⟨⟨v1, v2⟩, ⟨v3, v4⟩, ⟨v5, v6⟩⟩ := hv
  obtain ⟨o1, o2⟩ := qn_O (k := k) (a := a) (sr := sr) (sk := sk) (me := me) (si := si) (mn := mn) h hb hb1
  obtain ⟨d1, d2⟩ := qn_D (k := k) (a := a) (c := c) (sr := sr) (sk := sk) (me := me) (si := si) (mn := mn) h hb hb1
  have a1 := qn_abI (qr_B kd wd sr od sk me si cn mn br k a b) (ru 1)
  refine ⟨⟨?_, ?_⟩, ⟨?_, ?_⟩, ?_, ?_⟩
  · rw [e1]; omega
  · rw [e1]; omega
  · rw [e2]; omega
  · rw [e2]; omega
  · rw [e3]; omega
  · rw [e3]; omega
theorem qn_mono {B k a b c : Nat} {n m : Int} {v w : qx_V} (h : qn_H kd wd od ru cn B br) (hb : b ≤ B) (hb1 : 1 ≤ b) (hn : n ≤ 401) (hm : m ≤ 401) (hv : qn_G n v) (hw : qn_G m w) : qx_lt ps ((qr_st kd wd sr od sk ru me si cn mn br) k a b c v) ((qr_st kd wd sr od sk ru me si cn mn br) k a b c w) ↔ qx_lt ps v w := by
  obtain ⟨e1, e2, e3⟩ := qn_st (k := k) (a := a) (c := c) (sr := sr) (sk := sk) (me := me) (si := si) (mn := mn) h hb hb1 hn hv
  obtain ⟨g1, g2, g3⟩ := qn_st (k := k) (a := a) (c := c) (sr := sr) (sk := sk) (me := me) (si := si) (mn := mn) h hb hb1 hm hw
  unfold qx_lt
  simp only [Int64.lt_iff_toInt_lt, Int32.lt_iff_toInt_lt, ← Int64.toInt_inj, ← Int32.toInt_inj, e1, e2, e3, g1, g2, g3]
  have q1 : ∀ x y z : Int, x + z = y + z ↔ x = y := fun x y z => by omega
  have q2 : ∀ x y z : Int, x + z < y + z ↔ x < y := fun x y z => by omega
  simp only [q1, q2]
theorem qr_le : ∀ (n b c : Nat), b ≤ 400 → c < 4 → ∀ z, (qr_X kd wd sr od sk ru me si cn mn ps br) n b c = some z → n ≤ b
  | 0, _, _, _, _, _, _ => Nat.zero_le _
  | n + 1, b, c, hb, hc, z, hz => by
    have h1 := qr_is (kd := kd) (wd := wd) (sr := sr) (od := od) (sk := sk) (ru := ru) (me := me) (si := si) (cn := cn) (mn := mn) (ps := ps) (br := br) n b c hb
    rw [hz] at h1
    have h2 := h1.2.1
    unfold qx_K at h2
    split at h2
    · cases h3 : (qr_X kd wd sr od sk ru me si cn mn ps br) n (z.1 / 4) (z.1 % 4) with
      | none => rw [h3] at h2; cases h2
      | some y =>
        have h0 := h1.1
        have := qr_le n (z.1 / 4) (z.1 % 4) (by omega) (by omega) y h3
        omega
    · cases h2
/-- a way of n + 1 lines comes from one of n -/
theorem qr_from {n b c p : Nat} {v : qx_V} (hb : b ≤ 400) (h : (qr_X kd wd sr od sk ru me si cn mn ps br) (n + 1) b c = some (p, v)) : p < 4 * b ∧ (qr_cl kd wd sr od sk ru me si cn mn ps br) (n + 1) (p / 4) b = some c ∧ ∃ q w, (qr_X kd wd sr od sk ru me si cn mn ps br) n (p / 4) (p % 4) = some (q, w) ∧ v = (qr_st kd wd sr od sk ru me si cn mn br) (n + 1) (p / 4) b (p % 4) w := by
  have h1 := qr_is (kd := kd) (wd := wd) (sr := sr) (od := od) (sk := sk) (ru := ru) (me := me) (si := si) (cn := cn) (mn := mn) (ps := ps) (br := br) n b c hb
  rw [h] at h1
  have h2 := h1.2.1
  unfold qx_K at h2
  by_cases hcl : (qr_cl kd wd sr od sk ru me si cn mn ps br) (n + 1) (p / 4) b = some c
  · rw [if_pos hcl] at h2
    cases h3 : (qr_X kd wd sr od sk ru me si cn mn ps br) n (p / 4) (p % 4) with
    | none => simp only [h3] at h2; cases h2
    | some y =>
      simp only [h3, Option.map_some, Option.some.injEq] at h2
      exact ⟨h1.1, hcl, y.1, y.2, rfl, h2.symm⟩
  · rw [if_neg hcl] at h2; cases h2
theorem qn_X {B : Nat} (h : qn_H kd wd od ru cn B br) : ∀ (n b c p : Nat) (v : qx_V), n ≤ 400 → b ≤ B → (qr_X kd wd sr od sk ru me si cn mn ps br) n b c = some (p, v) → qn_G n v
  | 0, b, c, p, v, _, hb, hx => by
    have hx2 : (if b = 0 ∧ c = 2 then some (0, ((0 : Int64), (0 : Int32), (0 : Int64))) else none) = some (p, v) := hx
    split at hx2
    · cases hx2
      exact ⟨⟨by decide, by decide⟩, ⟨by decide, by decide⟩, ⟨by decide, by decide⟩⟩
    · cases hx2
  | n + 1, b, c, p, v, hn, hb, hx => by
    obtain ⟨h1, h2, q, w, h3, h4⟩ := qr_from (Nat.le_trans hb h.hB) hx
    have ih := qn_X h n (p / 4) (p % 4) q w (by omega) (by omega) h3
    subst h4
    have := qn_stG (k := n + 1) (a := p / 4) (b := b) (c := p % 4) (sr := sr) (sk := sk) (me := me) (si := si) (mn := mn) h hb (by omega) (show (n : Int) ≤ 401 by omega) ih
    exact this
end QN
