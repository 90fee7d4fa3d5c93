/-! the best at the end -/
theorem qb_two {α : Type} {lt : α → α → Prop} (ho : qb_O lt) {K : Nat → Option α} {L : Nat} {r : Nat → Option (Nat × α)} {rb : Option (Nat × α)} (h : ∀ i, i < L → qb_is lt (fun z => K (4 * i + z)) 4 (r i)) (hb : qb_is lt (fun i => (r i).map Prod.snd) L rb) : qb_is lt K (4 * L) (rb.bind (fun y => (r y.1).map (fun z => (4 * y.1 + z.1, z.2)))) := by
  cases rb with
  | none =>
    intro j hj
    have h1 : (r (j / 4)).map Prod.snd = none := hb (j / 4) (by omega)
    cases h2 : r (j / 4) with
    | none =>
      have h3 := h (j / 4) (by omega)
      rw [h2] at h3
      have this : K (4 * (j / 4) + j % 4) = none := h3 (j % 4) (by omega)
      rw [show 4 * (j / 4) + j % 4 = j by omega] at this
      exact this
    | some z => rw [h2] at h1; cases h1
  | some y =>
    have h1 : (r y.1).map Prod.snd = some y.2 := hb.2.1
    cases h2 : r y.1 with
    | none => rw [h2] at h1; cases h1
    | some z =>
      rw [h2] at h1
      have e : z.2 = y.2 := Option.some.inj h1
      have h3 := h y.1 hb.1
      rw [h2] at h3
      obtain ⟨g1, g2, g3⟩ := h3
      show qb_is lt K (4 * L) ((r y.1).map _)
      rw [h2]
      refine ⟨by have := hb.1; show 4 * y.1 + z.1 < 4 * L; omega, g2, fun j hj w hw => ?_⟩
      have hj4 := h (j / 4) (by omega)
      have hw2 : K (4 * (j / 4) + j % 4) = some w := by rw [show 4 * (j / 4) + j % 4 = j by omega]; exact hw
      cases h5 : r (j / 4) with
      | none =>
        rw [h5] at hj4
        have this : K (4 * (j / 4) + j % 4) = none := hj4 (j % 4) (by omega)
        rw [hw2] at this
        cases this
      | some u =>
        rw [h5] at hj4
        obtain ⟨f1, f2, f3⟩ := hj4
        have k1 := f3 (j % 4) (by omega) w hw2
        have k2 := hb.2.2 (j / 4) (by omega) u.2 (by show (r (j / 4)).map Prod.snd = _; rw [h5]; rfl)
        rw [← e] at k2
        refine ⟨ho.nt _ _ _ k1.1 k2.1, fun q => ?_⟩
        have q2 : j < 4 * y.1 + z.1 := q
        by_cases e2 : j / 4 = y.1
        · have := g3 (j % 4) (by omega) w (by show K (4 * y.1 + j % 4) = _; rw [← e2]; exact hw2)
          exact this.2 (by omega)
        · have k3 := k2.2 (by omega)
          exact Classical.byContradiction (fun q3 => ho.nt _ _ _ q3 k1.1 k3)
section QE
variable {lt : qx_V → qx_V → Prop} {G : qx_V → Prop} {B L : Nat} {X : Nat → Nat → Nat → Option (Nat × qx_V)} {Y : Nat → Nat → Option (Nat × qx_V × Nat)} {cl : Nat → Nat → Nat → Option Nat} {st : Nat → Nat → Nat → Nat → qx_V → qx_V}
/-- what the class compares: the closed layers' ends, then the open one's -/
def qe_K (L B : Nat) (X : Nat → Nat → Nat → Option (Nat × qx_V)) (Y : Nat → Nat → Option (Nat × qx_V × Nat)) (i : Nat) : Option (qx_V × Nat) := if i / 4 + 1 < L then (X (i / 4 + 1) B (i % 4)).map (fun y => (y.2, i / 4 + 1)) else (Y B (i % 4)).map Prod.snd
theorem qe_none (h : qy_H lt G B L X Y cl st) (hr : qb_is (qy_lt lt) (qe_K L B X Y) (4 * L) none) : ∀ n z, 1 ≤ n → z < 4 → X n B z = none := fun n z hn hz => by
  rcases Nat.lt_or_ge n L with q | q
  · have := hr (4 * (n - 1) + z) (by omega)
    unfold qe_K at this
    rw [show (4 * (n - 1) + z) / 4 + 1 = n by omega, show (4 * (n - 1) + z) % 4 = z by omega, if_pos q] at this
    cases hx : X n B z with
    | none => rfl
    | some y => rw [hx] at this; cases this
  · have hL := h.hL
    have := hr (4 * (L - 1) + z) (by omega)
    unfold qe_K at this
    rw [show (4 * (L - 1) + z) / 4 + 1 = L by omega, show (4 * (L - 1) + z) % 4 = z by omega, if_neg (Nat.lt_irrefl _)] at this
    have hA := qy_all h (B + 1) B (by omega) (Nat.le_refl _) z hz
    unfold qy_A at hA
    cases hy : Y B z with
    | none => rw [hy] at hA; exact hA n q
    | some y => rw [hy] at this; cases this
theorem qe_some (h : qy_H lt G B L X Y cl st) {i m : Nat} {w : qx_V} (hr : qb_is (qy_lt lt) (qe_K L B X Y) (4 * L) (some (i, w, m))) : 1 ≤ m ∧ (i / 4 + 1 < L → m = i / 4 + 1) ∧ (¬ i / 4 + 1 < L → i / 4 + 1 = L ∧ L ≤ m) ∧ (∃ p, X m B (i % 4) = some (p, w)) ∧ ∀ n z, 1 ≤ n → z < 4 → ∀ q v, X n B z = some (q, v) → ¬ lt v w ∧ (n < m → lt w v) ∧ (n = m → z < i % 4 → lt w v) := by
  have hL := h.hL
  have hoY := qy_O h.ho
  obtain ⟨r1, r2, r3⟩ := hr
  have r1 : i < 4 * L := r1
  have r2 : qe_K L B X Y i = some (w, m) := r2
  -- every way is answered by an offer that is no worse
  have ans : ∀ n z, 1 ≤ n → z < 4 → ∀ q v, X n B z = some (q, v) → ∃ j v2 n2, j < 4 * L ∧ j % 4 = z ∧ (n < L → j / 4 + 1 = n) ∧ (L ≤ n → j / 4 + 1 = L) ∧ qe_K L B X Y j = some (v2, n2) ∧ ¬ qy_lt lt (v, n) (v2, n2) ∧ (n < L → v2 = v ∧ n2 = n) := fun n z hn hz q v hx => by
    rcases Nat.lt_or_ge n L with a | a
    · refine ⟨4 * (n - 1) + z, v, n, by omega, by omega, fun _ => by omega, fun b => by omega, ?_, hoY.ir _, fun _ => ⟨rfl, rfl⟩⟩
      unfold qe_K
      rw [show (4 * (n - 1) + z) / 4 + 1 = n by omega, show (4 * (n - 1) + z) % 4 = z by omega, if_pos a, hx]
      rfl
    · have hA := qy_all h (B + 1) B (by omega) (Nat.le_refl _) z hz
      unfold qy_A at hA
      cases hy : Y B z with
      | none => rw [hy] at hA; rw [hA n a] at hx; cases hx
      | some y =>
        rw [hy] at hA
        refine ⟨4 * (L - 1) + z, y.2.1, y.2.2, by omega, by omega, fun b => by omega, fun _ => by omega, ?_, hA.2.2.2.2 n a q v hx, fun b => by omega⟩
        unfold qe_K
        rw [show (4 * (L - 1) + z) / 4 + 1 = L by omega, show (4 * (L - 1) + z) % 4 = z by omega, if_neg (Nat.lt_irrefl _), hy]
        rfl
  have main : 1 ≤ m ∧ (i / 4 + 1 < L → m = i / 4 + 1) ∧ (¬ i / 4 + 1 < L → i / 4 + 1 = L ∧ L ≤ m) ∧ ∃ p, X m B (i % 4) = some (p, w) := by
    unfold qe_K at r2
    by_cases a : i / 4 + 1 < L
    · rw [if_pos a] at r2
      cases hx : X (i / 4 + 1) B (i % 4) with
      | none => rw [hx] at r2; cases r2
      | some y =>
        rw [hx] at r2
        have e := Option.some.inj r2
        have e1 : y.2 = w := congrArg Prod.fst e
        have e2 : i / 4 + 1 = m := congrArg Prod.snd e
        refine ⟨by omega, fun _ => e2.symm, fun b => absurd a b, y.1, ?_⟩
        rw [← e2, hx, ← e1]
    · rw [if_neg a] at r2
      have hA := qy_all h (B + 1) B (by omega) (Nat.le_refl _) (i % 4) (by omega)
      unfold qy_A at hA
      cases hy : Y B (i % 4) with
      | none => rw [hy] at r2; cases r2
      | some y =>
        rw [hy] at r2 hA
        have e := Option.some.inj r2
        have e1 : y.2.1 = w := congrArg Prod.fst e
        have e2 : y.2.2 = m := congrArg Prod.snd e
        obtain ⟨a1, a2, _⟩ := hA
        rw [e2] at a1
        rw [e2, e1] at a2
        exact ⟨by omega, fun b => absurd b a, fun _ => ⟨by omega, a1⟩, _, a2⟩
  refine ⟨main.1, main.2.1, main.2.2.1, main.2.2.2, fun n z hn hz q v hx => ?_⟩
  obtain ⟨j, v2, n2, j1, j2, j3, j4, j5, j6, j7⟩ := ans n z hn hz q v hx
  have g := r3 j j1 _ j5
  have g0 : ¬ qy_lt lt (v, n) (w, m) := hoY.nt _ _ _ j6 g.1
  have g1 : ¬ lt v w := fun q => g0 (Or.inl q)
  refine ⟨g1, fun hnm => Classical.byContradiction (fun q => g0 (Or.inr ⟨q, hnm⟩)), fun e hzi => ?_⟩
  refine Classical.byContradiction (fun q => ?_)
  -- the same number of lines: the same layer, so the offer j comes first
  have hji : j < i := by
    rcases Nat.lt_or_ge n L with a | a
    · have b1 := j3 a
      by_cases c : i / 4 + 1 < L
      · have := main.2.1 c
        omega
      · have := main.2.2.1 c
        omega
    · have b1 := j4 a
      by_cases c : i / 4 + 1 < L
      · have := main.2.1 c
        omega
      · have := main.2.2.1 c
        omega
  have g2 := g.2 hji
  have k1 : ¬ lt v v2 := fun w => j6 (Or.inl w)
  rcases g2 with g2 | ⟨g2, g3⟩
  · exact h.ho.nt _ _ _ q k1 g2
  · have g3 : m < n2 := g3
    have g2 : ¬ lt v2 w := g2
    refine j6 (Or.inr ⟨?_, by show n < n2; omega⟩)
    exact h.ho.nt _ _ _ g2 q
end QE
