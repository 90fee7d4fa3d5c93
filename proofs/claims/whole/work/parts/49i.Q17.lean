/-! the way that the class finds is the reference's -/
def kt_ok (bk : Nat → Int32) (pl : Nat) (QX : Nat → Nat → Nat → Option (Nat × qx_V)) : Nat → Nat → Nat → Nat → Prop
  | 0, _, b, _ => b = 0
  | n + 1, l, b, z => 1 ≤ l ∧ b * 4 + z < pl ∧ ∃ (p : Nat) (v : qx_V) (s : Nat), QX (n + 1) b z = some (p, v) ∧ s < 2 ∧ p < 4 * b ∧ bk ((l - 1) * pl + (b * 4 + z)) = nI (2 * p + s) ∧ kt_ok bk pl QX n (l - 1 + s) (p / 4) (p % 4)
section KT
variable {d : kj_D} {QX : Nat → Nat → Nat → Option (Nat × qx_V)} {bn : Nat} {pl ly le N : Nat} {Y : Nat → Nat → ke_R} {re : Nat → ke_R} {rb : ke_R} {bk ec : Nat → Int32} {wl : Nat}
theorem kq_from (hX : kq_X d bn QX) {n b z p : Nat} {v : qx_V} (hb : b ≤ bn) (h : QX (n + 1) b z = some (p, v)) : p < 4 * b ∧ ∃ y, QX n (p / 4) (p % 4) = some y := by
  have h1 := hX.1 n b z hb
  rw [h] at h1
  have h2 := h1.2.1
  unfold qx_K at h2
  split at h2
  · cases h3 : QX n (p / 4) (p % 4) with
    | none => simp only [h3] at h2; cases h2
    | some y => exact ⟨h1.1, y, rfl⟩
  · cases h2
theorem kt_closed {op : Prop} [Decidable op] (h : kq_S d QX op bn pl ly le N Y re rb bk ec wl) (hX : kq_X d bn QX) (hpl : (bn + 1) * 4 ≤ pl) : ∀ (n b z : Nat), n < N → (n < ly ∨ ¬ op) → b ≤ bn → z < 4 → ∀ y, QX n b z = some y → kt_ok bk pl QX n n b z
  | 0, b, z, _, _, _, _, y, hy => by
    rw [hX.2] at hy
    split at hy
    · rename_i q; exact q.1
    · cases hy
  | n + 1, b, z, hn, ho, hb, hz, y, hy => by
    have hy2 : QX (n + 1) b z = some (y.1, y.2) := hy
    obtain ⟨k1, w, k2⟩ := kq_from hX hb hy2
    refine ⟨by omega, by omega, y.1, y.2, 0, hy2, by omega, k1, ?_, ?_⟩
    · rw [h.bks (n + 1) (by omega) hn ho b z hb hz y hy]; rfl
    · exact kt_closed h hX hpl n (y.1 / 4) (y.1 % 4) (by omega) (ho.elim (fun q => Or.inl (by omega)) Or.inr) (by omega) (by omega) w k2
theorem ke_en_p {i : Nat} : ke_en i = 2 * (4 * (i / 8) + i % 4) + i % 8 / 4 := by
  unfold ke_en
  omega
theorem kt_open {op : Prop} [Decidable op] {lt : qx_V → qx_V → Prop} {G : qx_V → Prop} {cl : Nat → Nat → Nat → Option Nat} {st : Nat → Nat → Nat → Nat → qx_V → qx_V} (h : kq_S d QX op bn pl ly le (ly + 1) Y re rb bk ec wl) (hX : kq_X d bn QX) (hop : op) (hly : 1 ≤ ly) (hpl : (bn + 1) * 4 ≤ pl) (hy : qy_H lt G bn ly QX Y cl st) : ∀ (N b z : Nat), b < N → b ≤ bn → z < 4 → ∀ (i m : Nat) (w : qx_V), Y b z = some (i, w, m) → kt_ok bk pl QX m ly b z
  | 0, _, _, h0, _, _, _, _, _, _ => absurd h0 (Nat.not_lt_zero _)
  | N + 1, b, z, h0, hb, hz, i, m, w, hi => by
    have hA := qy_all hy (b + 1) b (by omega) hb z hz
    unfold qy_A at hA
    rw [hi] at hA
    obtain ⟨a1, a2, a3, a4, _⟩ := hA
    have a1 : ly ≤ m := a1
    have a2 : QX m b z = some (4 * (i / 8) + i % 4, w) := a2
    obtain ⟨m0, rfl⟩ : ∃ m0, m = m0 + 1 := ⟨m - 1, by omega⟩
    obtain ⟨k1, y, k2⟩ := kq_from hX hb a2
    have hw := (h.opn hop (by omega)).2 b z hb hz _ hi
    have hw : bk ((ly - 1) * pl + (b * 4 + z)) = nI (ke_en i) := hw
    refine ⟨hly, by omega, 4 * (i / 8) + i % 4, w, i % 8 / 4, a2, by omega, k1, by rw [hw, ke_en_p], ?_⟩
    have e1 : (4 * (i / 8) + i % 4) / 4 = i / 8 := by omega
    have e2 : (4 * (i / 8) + i % 4) % 4 = i % 4 := by omega
    rw [e1, e2] at k2 ⊢
    rcases Nat.lt_or_ge (i % 8) 4 with q | q
    · have a3 : m0 + 1 = ly := a3 q
      rw [show i % 8 / 4 = 0 by omega, show ly - 1 + 0 = m0 by omega]
      exact kt_closed h hX hpl m0 (i / 8) (i % 4) (by omega) (Or.inl (by omega)) (by omega) (by omega) y k2
    · obtain ⟨j, v, b1, b2⟩ := a4 q
      have b1 : Y (i / 8) (i % 4) = some (j, v, m0) := b1
      rw [show i % 8 / 4 = 1 by omega, show ly - 1 + 1 = ly by omega]
      exact kt_open h hX hop hly hpl hy N (i / 8) (i % 4) (by omega) (by omega) (by omega) j m0 v b1
/-- what an open search finds -/
theorem kq_open {op : Prop} [Decidable op] {G : qx_V → Prop} {cl : Nat → Nat → Nat → Option Nat} {st : Nat → Nat → Nat → Nat → qx_V → qx_V} (h : kq_S d QX op bn pl ly le (ly + 1) Y re rb bk ec wl) (hX : kq_X d bn QX) (hop : op) (hly : 1 ≤ ly) (hpl : (bn + 1) * 4 ≤ pl) (hy : qy_H (qx_lt 3) G bn ly QX Y cl st) :
    (rb = none → ∀ n z, 1 ≤ n → z < 4 → QX n bn z = none) ∧ ∀ (i m : Nat) (w : qx_V), rb = some (i, w, m) → ∃ z, z < 4 ∧ i < ly ∧ ec (i + 1) = nI z ∧ wl = i + 1 ∧ 1 ≤ m ∧ (∃ p, QX m bn z = some (p, w)) ∧ kt_ok bk pl QX m (i + 1) bn z ∧ ∀ n z2, 1 ≤ n → z2 < 4 → ∀ q v, QX n bn z2 = some (q, v) → ¬ qx_lt 3 v w ∧ (n < m → qx_lt 3 w v) ∧ (n = m → z2 < z → qx_lt 3 w v) := by
  have hrow : ∀ i, i < ly → qb_is ke_T (fun z => qe_K ly bn QX Y (4 * i + z)) 4 (re (i + 1)) := fun i hi => by
    refine qb_congr (h.ends (i + 1) (by omega) (by omega)).1 (fun j hj => ?_)
    unfold kq_E qe_K
    rw [show (4 * i + j) / 4 = i by omega, show (4 * i + j) % 4 = j by omega]
    by_cases e : i + 1 = ly
    · rw [if_pos ⟨e, hop⟩, if_neg (by omega)]
    · rw [if_neg (fun q => e q.1), if_pos (by omega)]
  have htwo := qb_two ke_O (K := qe_K ly bn QX Y) (r := fun i => re (i + 1)) hrow h.best.1
  refine ⟨fun e => ?_, fun i m w e => ?_⟩
  · rw [e] at htwo
    exact qe_none hy htwo
  · rw [e] at htwo
    have hb := h.best.1
    rw [e] at hb
    have hr0 : (re (i + 1)).map Prod.snd = some (w, m) := hb.2.1
    have hi : i < ly := hb.1
    cases hr : re (i + 1) with
    | none => rw [hr] at hr0; cases hr0
    | some z =>
      rw [hr] at hr0
      have ez : z.2 = (w, m) := Option.some.inj hr0
      have hh := hrow i hi
      rw [hr] at hh
      have hz4 : z.1 < 4 := hh.1
      have ht2 : qb_is ke_T (qe_K ly bn QX Y) (4 * ly) (some (4 * i + z.1, w, m)) := by
        have e3 : ((some (i, w, m)).bind (fun y : Nat × ke_K => (re (y.1 + 1)).map (fun u => (4 * y.1 + u.1, u.2)))) = some (4 * i + z.1, w, m) := by
          show (re (i + 1)).map _ = _
          rw [hr]
          show some (4 * i + z.1, z.2) = _
          rw [ez]
        rw [← e3]
        exact htwo
      obtain ⟨q1, q2, q3, q4, q5⟩ := qe_some hy ht2
      rw [show (4 * i + z.1) / 4 = i by omega] at q2 q3
      rw [show (4 * i + z.1) % 4 = z.1 by omega] at q4 q5
      have hec := (h.ends (i + 1) (by omega) (by omega)).2
      rw [hr] at hec
      refine ⟨z.1, hz4, hi, hec, h.best.2 _ e, q1, q4, ?_, q5⟩
      by_cases hlt : i + 1 < ly
      · have em := q2 hlt
        obtain ⟨p, hp⟩ := q4
        subst em
        exact kt_closed h hX hpl (i + 1) bn z.1 (by omega) (Or.inl hlt) (Nat.le_refl _) hz4 _ hp
      · have em := q3 hlt
        have hk := hh.2.1
        have hk : qe_K ly bn QX Y (4 * i + z.1) = some z.2 := hk
        unfold qe_K at hk
        rw [show (4 * i + z.1) / 4 = i by omega, show (4 * i + z.1) % 4 = z.1 by omega, if_neg hlt, ez] at hk
        cases hyy : Y bn z.1 with
        | none => rw [hyy] at hk; cases hk
        | some y =>
          rw [hyy] at hk
          have ey : y.2 = (w, m) := Option.some.inj hk
          rw [em.1]
          exact kt_open h hX hop hly hpl hy (bn + 1) bn z.1 (by omega) (Nat.le_refl _) hz4 y.1 m w (by rw [hyy, ← ey])
/-- what a closed search finds: the best of each number of lines -/
theorem kq_clos {op : Prop} [Decidable op] (h : kq_S d QX op bn pl ly le (ly + 1) Y re rb bk ec wl) (hX : kq_X d bn QX) (hop : ¬ op) (hpl : (bn + 1) * 4 ≤ pl) {n : Nat} (h1 : 1 ≤ n) (h2 : n ≤ ly) : (ec n = (-1) ∧ ∀ z, z < 4 → QX n bn z = none) ∨ ∃ z p w, z < 4 ∧ ec n = nI z ∧ QX n bn z = some (p, w) ∧ kt_ok bk pl QX n n bn z ∧ ∀ z2, z2 < 4 → ∀ q v, QX n bn z2 = some (q, v) → ¬ qx_lt 3 v w ∧ (z2 < z → qx_lt 3 w v) := by
  obtain ⟨e1, e2⟩ := h.ends n h1 (by omega)
  have hE : ∀ z, kq_E QX Y op ly bn n z = (QX n bn z).map (fun y => (y.2, n)) := fun z => by
    unfold kq_E
    rw [if_neg (fun q => hop q.2)]
  cases hr : re n with
  | none =>
    rw [hr] at e1 e2
    refine Or.inl ⟨e2, fun z hz => ?_⟩
    have := e1 z hz
    rw [hE] at this
    cases hx : QX n bn z with
    | none => rfl
    | some y => rw [hx] at this; cases this
  | some y =>
    rw [hr] at e1 e2
    obtain ⟨g1, g2, g3⟩ := e1
    rw [hE] at g2
    cases hx : QX n bn y.1 with
    | none => rw [hx] at g2; cases g2
    | some u =>
      rw [hx] at g2
      have eu : (u.2, n) = y.2 := Option.some.inj g2
      refine Or.inr ⟨y.1, u.1, u.2, g1, e2, hx, kt_closed h hX hpl n bn y.1 (by omega) (Or.inr hop) (Nat.le_refl _) g1 u hx, fun z2 hz2 q v hv => ?_⟩
      have := g3 z2 hz2 (v, n) (by rw [hE, hv]; rfl)
      rw [← eu] at this
      refine ⟨fun w => this.1 (Or.inl w), fun w => ?_⟩
      rcases this.2 w with q | ⟨_, q⟩
      · exact q
      · exact absurd q (Nat.lt_irrefl _)
end KT
