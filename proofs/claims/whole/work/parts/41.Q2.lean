/-! the first of the least among numbered offers -/
section QB
variable {α : Type}
abbrev qb_O {α : Type} (lt : α → α → Prop) : Prop := (∀ x, ¬ lt x x) ∧ (∀ x y z, ¬ lt x y → ¬ lt y z → ¬ lt x z) ∧ (∀ x y, lt x y → ¬ lt y x)
theorem qb_O.ir {α : Type} {lt : α → α → Prop} (h : qb_O lt) : ∀ x, ¬ lt x x := h.1
theorem qb_O.nt {α : Type} {lt : α → α → Prop} (h : qb_O lt) : ∀ x y z, ¬ lt x y → ¬ lt y z → ¬ lt x z := h.2.1
theorem qb_O.as {α : Type} {lt : α → α → Prop} (h : qb_O lt) : ∀ x y, lt x y → ¬ lt y x := h.2.2
def qb_is (lt : α → α → Prop) (K : Nat → Option α) (N : Nat) (r : Option (Nat × α)) : Prop := match r with
  | none => ∀ j, j < N → K j = none
  | some z => z.1 < N ∧ K z.1 = some z.2 ∧ ∀ j, j < N → ∀ y, K j = some y → ¬ lt y z.2 ∧ (j < z.1 → lt z.2 y)
theorem qb_uni {lt : α → α → Prop} {K : Nat → Option α} {N : Nat} {r r2 : Option (Nat × α)} (h : qb_is lt K N r) (h2 : qb_is lt K N r2) : r = r2 := by
  cases r with
  | none =>
    cases r2 with
    | none => rfl
    | some z => exact absurd (h z.1 h2.1) (by rw [h2.2.1]; exact fun q => nomatch q)
  | some x =>
    cases r2 with
    | none => exact absurd (h2 x.1 h.1) (by rw [h.2.1]; exact fun q => nomatch q)
    | some z =>
      have e : x.1 = z.1 := by
        rcases Nat.lt_trichotomy x.1 z.1 with q | q | q
        · exact absurd ((h2.2.2 x.1 h.1 _ h.2.1).2 q) (h.2.2 z.1 h2.1 _ h2.2.1).1
        · exact q
        · exact absurd ((h.2.2 z.1 h2.1 _ h2.2.1).2 q) (h2.2.2 x.1 h.1 _ h.2.1).1
      have e2 : x.2 = z.2 := Option.some.inj (by rw [← h.2.1, ← h2.2.1, e])
      exact congrArg some (Prod.ext e e2)
theorem qb_0 {lt : α → α → Prop} {K : Nat → Option α} : qb_is lt K 0 none := fun _ h => absurd h (Nat.not_lt_zero _)
theorem qb_n {lt : α → α → Prop} {K : Nat → Option α} {N : Nat} {r : Option (Nat × α)} (h : qb_is lt K N r) (hk : K N = none) : qb_is lt K (N + 1) r := by
  cases r with
  | none =>
    intro j hj
    rcases Nat.lt_or_ge j N with q | q
    · exact h j q
    · rw [show j = N by omega]; exact hk
  | some x =>
    refine ⟨Nat.lt_succ_of_lt h.1, h.2.1, fun j hj y hy => ?_⟩
    rcases Nat.lt_or_ge j N with q | q
    · exact h.2.2 j q y hy
    · rw [show j = N by omega, hk] at hy; cases hy
theorem qb_f {lt : α → α → Prop} (ho : qb_O lt) {K : Nat → Option α} {N : Nat} {x : α} (h : qb_is lt K N none) (hk : K N = some x) : qb_is lt K (N + 1) (some (N, x)) := by
  refine ⟨Nat.lt_succ_self N, hk, fun j hj y hy => ?_⟩
  rcases Nat.lt_or_ge j N with q | q
  · rw [h j q] at hy; cases hy
  · have e : j = N := by omega
    subst e
    rw [hk] at hy
    cases hy
    exact ⟨ho.ir _, fun z => absurd z (Nat.lt_irrefl _)⟩
theorem qb_b {lt : α → α → Prop} (ho : qb_O lt) {K : Nat → Option α} {N i : Nat} {x z : α} (h : qb_is lt K N (some (i, z))) (hk : K N = some x) (hb : lt x z) : qb_is lt K (N + 1) (some (N, x)) := by
  refine ⟨Nat.lt_succ_self N, hk, fun j hj y hy => ?_⟩
  rcases Nat.lt_or_ge j N with q | q
  · have h1 := (h.2.2 j q y hy).1
    have h3 : lt x y := Classical.byContradiction (fun w => ho.nt x y z w h1 hb)
    exact ⟨ho.as _ _ h3, fun _ => h3⟩
  · have e : j = N := by omega
    subst e
    rw [hk] at hy
    cases hy
    exact ⟨ho.ir _, fun z => absurd z (Nat.lt_irrefl _)⟩
theorem qb_k {lt : α → α → Prop} {K : Nat → Option α} {N i : Nat} {x z : α} (h : qb_is lt K N (some (i, z))) (hk : K N = some x) (hb : ¬ lt x z) : qb_is lt K (N + 1) (some (i, z)) := by
  refine ⟨Nat.lt_succ_of_lt h.1, h.2.1, fun j hj y hy => ?_⟩
  rcases Nat.lt_or_ge j N with q | q
  · exact h.2.2 j q y hy
  · have e : j = N := by omega
    subst e
    rw [hk] at hy
    cases hy
    exact ⟨hb, fun w => absurd w (Nat.lt_asymm h.1)⟩
theorem qb_congr {lt : α → α → Prop} {K K2 : Nat → Option α} {N : Nat} {r : Option (Nat × α)} (h : qb_is lt K N r) (e : ∀ j, j < N → K j = K2 j) : qb_is lt K2 N r := by
  cases r with
  | none => exact fun j hj => by rw [← e j hj]; exact h j hj
  | some x => exact ⟨h.1, by rw [← e _ h.1]; exact h.2.1, fun j hj y hy => h.2.2 j hj y (by rw [e j hj]; exact hy)⟩
theorem qb_more {lt : α → α → Prop} {K : Nat → Option α} {N : Nat} {r : Option (Nat × α)} (h : qb_is lt K N r) : ∀ d, (∀ j, N ≤ j → j < N + d → K j = none) → qb_is lt K (N + d) r
  | 0, _ => h
  | d + 1, hz => qb_n (N := N + d) (qb_more h d (fun j h1 h2 => hz j h1 (by omega))) (hz (N + d) (by omega) (by omega))
end QB
/-! ways of n lines, and of L lines or more -/
section QY
variable {α : Type}
abbrev qy_lt (lt : α → α → Prop) (x y : α × Nat) : Prop := lt x.1 y.1 ∨ (¬ lt y.1 x.1 ∧ x.2 < y.2)
theorem qy_O {lt : α → α → Prop} (ho : qb_O lt) : qb_O (qy_lt lt) := by
  refine ⟨?_, ?_, ?_⟩
  · exact fun x q => q.elim (ho.ir _) (fun z => Nat.lt_irrefl _ z.2)
  · exact fun x y z h1 h2 q => by
      have a1 : ¬ lt x.1 y.1 := fun w => h1 (Or.inl w)
      have a2 : ¬ lt y.1 z.1 := fun w => h2 (Or.inl w)
      have a3 := ho.nt _ _ _ a1 a2
      rcases q with q | ⟨q1, q2⟩
      · exact a3 q
      · have b1 : ¬ lt y.1 x.1 := fun w => ho.nt _ _ _ a2 q1 w
        have b2 : ¬ lt z.1 y.1 := fun w => ho.nt _ _ _ q1 a1 w
        have c1 : ¬ x.2 < y.2 := fun w => h1 (Or.inr ⟨b1, w⟩)
        have c2 : ¬ y.2 < z.2 := fun w => h2 (Or.inr ⟨b2, w⟩)
        omega
  · exact fun x y h q => by
      rcases h with h | ⟨h1, h2⟩
      · rcases q with q | ⟨q1, q2⟩
        · exact ho.as _ _ h q
        · exact q1 h
      · rcases q with q | ⟨q1, q2⟩
        · exact h1 q
        · omega
/-- one line more, from the place 4 a + c -/
def qx_K (X : Nat → Nat → Option (Nat × α)) (cl : Nat → Nat → Option Nat) (st : Nat → Nat → Nat → α → α) (b c : Nat) (i : Nat) : Option α :=
  if cl (i / 4) b = some c then (X (i / 4) (i % 4)).map (fun y => st (i / 4) b (i % 4) y.2) else none
def qy_K (X : Nat → Nat → Option (Nat × α)) (Y : Nat → Nat → Option (Nat × α × Nat)) (cl : Nat → Nat → Option Nat) (st : Nat → Nat → Nat → α → α) (L b c : Nat) (i : Nat) : Option (α × Nat) :=
  if cl (i / 8) b = some c then (if i % 8 < 4 then (X (i / 8) (i % 4)).map (fun y => (st (i / 8) b (i % 4) y.2, L)) else (Y (i / 8) (i % 4)).map (fun y => (st (i / 8) b (i % 4) y.2.1, y.2.2 + 1))) else none
abbrev qy_H {α : Type} (lt : α → α → Prop) (G : α → Prop) (B L : Nat) (X : Nat → Nat → Nat → Option (Nat × α)) (Y : Nat → Nat → Option (Nat × α × Nat)) (cl : Nat → Nat → Nat → Option Nat) (st : Nat → Nat → Nat → Nat → α → α) : Prop := (qb_O lt) ∧ (1 ≤ L) ∧ (∀ n b c, b ≤ B → c < 4 → qb_is lt (qx_K (X n) (cl (n + 1)) (st (n + 1)) b c) (4 * b) (X (n + 1) b c)) ∧ (∀ b c, 0 < b → X 0 b c = none) ∧ (∀ n b c p w, b ≤ B → c < 4 → X n b c = some (p, w) → G w) ∧ (∀ k a b c x y, 1 ≤ k → G x → G y → b ≤ B → a < b → c < 4 → (lt (st k a b c x) (st k a b c y) ↔ lt x y)) ∧ (∀ k a b, L ≤ k → L ≤ a → a < b → b ≤ B → cl k a b = cl L a b ∧ ∀ c x, st k a b c x = st L a b c x) ∧ (∀ b c, b ≤ B → c < 4 → qb_is (qy_lt lt) (qy_K (X (L - 1)) Y (cl L) (st L) L b c) (8 * b) (Y b c))
theorem qy_H.ho {α : Type} {lt : α → α → Prop} {G : α → Prop} {B L : Nat} {X : Nat → Nat → Nat → Option (Nat × α)} {Y : Nat → Nat → Option (Nat × α × Nat)} {cl : Nat → Nat → Nat → Option Nat} {st : Nat → Nat → Nat → Nat → α → α} (h : qy_H lt G B L X Y cl st) : qb_O lt := h.1
theorem qy_H.hL {α : Type} {lt : α → α → Prop} {G : α → Prop} {B L : Nat} {X : Nat → Nat → Nat → Option (Nat × α)} {Y : Nat → Nat → Option (Nat × α × Nat)} {cl : Nat → Nat → Nat → Option Nat} {st : Nat → Nat → Nat → Nat → α → α} (h : qy_H lt G B L X Y cl st) : 1 ≤ L := h.2.1
theorem qy_H.hX {α : Type} {lt : α → α → Prop} {G : α → Prop} {B L : Nat} {X : Nat → Nat → Nat → Option (Nat × α)} {Y : Nat → Nat → Option (Nat × α × Nat)} {cl : Nat → Nat → Nat → Option Nat} {st : Nat → Nat → Nat → Nat → α → α} (h : qy_H lt G B L X Y cl st) : ∀ n b c, b ≤ B → c < 4 → qb_is lt (qx_K (X n) (cl (n + 1)) (st (n + 1)) b c) (4 * b) (X (n + 1) b c) := h.2.2.1
theorem qy_H.hX0 {α : Type} {lt : α → α → Prop} {G : α → Prop} {B L : Nat} {X : Nat → Nat → Nat → Option (Nat × α)} {Y : Nat → Nat → Option (Nat × α × Nat)} {cl : Nat → Nat → Nat → Option Nat} {st : Nat → Nat → Nat → Nat → α → α} (h : qy_H lt G B L X Y cl st) : ∀ b c, 0 < b → X 0 b c = none := h.2.2.2.1
theorem qy_H.hG {α : Type} {lt : α → α → Prop} {G : α → Prop} {B L : Nat} {X : Nat → Nat → Nat → Option (Nat × α)} {Y : Nat → Nat → Option (Nat × α × Nat)} {cl : Nat → Nat → Nat → Option Nat} {st : Nat → Nat → Nat → Nat → α → α} (h : qy_H lt G B L X Y cl st) : ∀ n b c p w, b ≤ B → c < 4 → X n b c = some (p, w) → G w := h.2.2.2.2.1
theorem qy_H.hm {α : Type} {lt : α → α → Prop} {G : α → Prop} {B L : Nat} {X : Nat → Nat → Nat → Option (Nat × α)} {Y : Nat → Nat → Option (Nat × α × Nat)} {cl : Nat → Nat → Nat → Option Nat} {st : Nat → Nat → Nat → Nat → α → α} (h : qy_H lt G B L X Y cl st) : ∀ k a b c x y, 1 ≤ k → G x → G y → b ≤ B → a < b → c < 4 → (lt (st k a b c x) (st k a b c y) ↔ lt x y) := h.2.2.2.2.2.1
theorem qy_H.hu {α : Type} {lt : α → α → Prop} {G : α → Prop} {B L : Nat} {X : Nat → Nat → Nat → Option (Nat × α)} {Y : Nat → Nat → Option (Nat × α × Nat)} {cl : Nat → Nat → Nat → Option Nat} {st : Nat → Nat → Nat → Nat → α → α} (h : qy_H lt G B L X Y cl st) : ∀ k a b, L ≤ k → L ≤ a → a < b → b ≤ B → cl k a b = cl L a b ∧ ∀ c x, st k a b c x = st L a b c x := h.2.2.2.2.2.2.1
theorem qy_H.hY {α : Type} {lt : α → α → Prop} {G : α → Prop} {B L : Nat} {X : Nat → Nat → Nat → Option (Nat × α)} {Y : Nat → Nat → Option (Nat × α × Nat)} {cl : Nat → Nat → Nat → Option Nat} {st : Nat → Nat → Nat → Nat → α → α} (h : qy_H lt G B L X Y cl st) : ∀ b c, b ≤ B → c < 4 → qb_is (qy_lt lt) (qy_K (X (L - 1)) Y (cl L) (st L) L b c) (8 * b) (Y b c) := h.2.2.2.2.2.2.2
variable {lt : α → α → Prop} {G : α → Prop} {B L : Nat} {X : Nat → Nat → Nat → Option (Nat × α)} {Y : Nat → Nat → Option (Nat × α × Nat)} {cl : Nat → Nat → Nat → Option Nat} {st : Nat → Nat → Nat → Nat → α → α}
theorem qx_le (h : qy_H lt G B L X Y cl st) : ∀ (n b c : Nat), b ≤ B → c < 4 → ∀ z, X n b c = some z → n ≤ b
  | 0, _, _, _, _, _, _ => Nat.zero_le _
  | n + 1, b, c, hb, hc, z, hz => by
    have h1 := h.hX n b c hb hc
    rw [hz] at h1
    have h2 := h1.2.1
    unfold qx_K at h2
    split at h2
    · cases h3 : X n (z.1 / 4) (z.1 % 4) with
      | none => rw [h3] at h2; cases h2
      | some y =>
        have h0 := h1.1
        have := qx_le h n (z.1 / 4) (z.1 % 4) (by omega) (by omega) y h3
        omega
    · cases h2
/-- what holds of Y at b -/
def qy_A (lt : α → α → Prop) (L : Nat) (X : Nat → Nat → Nat → Option (Nat × α)) (Y : Nat → Nat → Option (Nat × α × Nat)) (b c : Nat) : Prop := match Y b c with
  | none => ∀ m, L ≤ m → X m b c = none
  | some z => L ≤ z.2.2 ∧ X z.2.2 b c = some (4 * (z.1 / 8) + z.1 % 4, z.2.1) ∧ (z.1 % 8 < 4 → z.2.2 = L) ∧ (4 ≤ z.1 % 8 → ∃ i y, Y (z.1 / 8) (z.1 % 4) = some (i, y, z.2.2 - 1) ∧ L + 1 ≤ z.2.2) ∧ ∀ m, L ≤ m → ∀ q v, X m b c = some (q, v) → ¬ qy_lt lt (v, m) (z.2.1, z.2.2)
/-- an offer of X m at b is answered by one of Y that is no worse -/
theorem qy_ans (h : qy_H lt G B L X Y cl st) {b c : Nat} (hb : b ≤ B) (ih : ∀ a, a < b → ∀ c, c < 4 → qy_A lt L X Y a c) {m j : Nat} {v : α} (hm : L ≤ m) (hj : j < 4 * b) (hv : qx_K (X (m - 1)) (cl m) (st m) b c j = some v) :
    ∃ i v2 n2, i < 8 * b ∧ i / 8 = j / 4 ∧ i % 4 = j % 4 ∧ (m = L ↔ i % 8 < 4) ∧ qy_K (X (L - 1)) Y (cl L) (st L) L b c i = some (v2, n2) ∧ ¬ qy_lt lt (v, m) (v2, n2) ∧ (¬ lt v2 v → m ≤ n2 → n2 = m) := by
  have hL := h.hL
  unfold qx_K at hv
  by_cases hcl : cl m (j / 4) b = some c
  · rw [if_pos hcl] at hv
    cases hx : X (m - 1) (j / 4) (j % 4) with
    | none => rw [hx] at hv; cases hv
    | some y =>
      rw [hx] at hv
      simp only [Option.map_some, Option.some.injEq] at hv
      by_cases e : m = L
      · subst e
        have i1 : (8 * (j / 4) + j % 4) / 8 = j / 4 := by omega
        have i2 : (8 * (j / 4) + j % 4) % 4 = j % 4 := by omega
        have i3 : (8 * (j / 4) + j % 4) % 8 < 4 := by omega
        refine ⟨8 * (j / 4) + j % 4, v, m, by omega, i1, i2, ⟨fun _ => i3, fun _ => rfl⟩, ?_, (qy_O h.ho).ir _, fun _ _ => rfl⟩
        unfold qy_K
        rw [i1, i2, if_pos hcl, if_pos i3, hx]
        simp only [Option.map_some, hv]
      · have ha : m - 1 ≤ j / 4 := qx_le h (m - 1) (j / 4) (j % 4) (by omega) (by omega) y hx
        obtain ⟨u1, u2⟩ := h.hu m (j / 4) b hm (by omega) (by omega) hb
        have hA := ih (j / 4) (by omega) (j % 4) (by omega)
        unfold qy_A at hA
        cases hy : Y (j / 4) (j % 4) with
        | none =>
          rw [hy] at hA
          have := hA (m - 1) (by omega)
          rw [hx] at this
          cases this
        | some z =>
          rw [hy] at hA
          obtain ⟨z1, z2, _, _, z5⟩ := hA
          have i1 : (8 * (j / 4) + 4 + j % 4) / 8 = j / 4 := by omega
          have i2 : (8 * (j / 4) + 4 + j % 4) % 4 = j % 4 := by omega
          have i3 : ¬ (8 * (j / 4) + 4 + j % 4) % 8 < 4 := by omega
          have w1 := z5 (m - 1) (by omega) y.1 y.2 (by rw [hx])
          have gy := h.hG _ _ _ _ _ (by omega) (by omega) hx
          have gz := h.hG _ _ _ _ _ (by omega) (by omega) z2
          have m1 := h.hm L (j / 4) b (j % 4) y.2 z.2.1 hL gy gz hb (by omega) (by omega)
          have m2 := h.hm L (j / 4) b (j % 4) z.2.1 y.2 hL gz gy hb (by omega) (by omega)
          rw [u2] at hv
          refine ⟨8 * (j / 4) + 4 + j % 4, st L (j / 4) b (j % 4) z.2.1, z.2.2 + 1, by omega, i1, i2, ⟨fun q => absurd q e, fun q => absurd q i3⟩, ?_, ?_, ?_⟩
          · unfold qy_K
            rw [i1, i2, ← u1, if_pos hcl, if_neg i3, hy]
            simp only [Option.map_some]
          · rintro (q | ⟨q1, q2⟩)
            · simp only [← hv] at q
              exact w1 (Or.inl (m1.mp q))
            · simp only [← hv] at q1 q2
              exact w1 (Or.inr ⟨fun w => q1 (m2.mpr w), by simp only; omega⟩)
          · intro q1 q2
            rw [← hv] at q1
            have : ¬ (m - 1 < z.2.2) := fun w => w1 (Or.inr ⟨fun t => q1 (m2.mpr t), w⟩)
            omega
  · rw [if_neg hcl] at hv; cases hv
theorem qy_step (h : qy_H lt G B L X Y cl st) {b : Nat} (hb : b ≤ B) (ih : ∀ a, a < b → ∀ c, c < 4 → qy_A lt L X Y a c) (c : Nat) (hc : c < 4) : qy_A lt L X Y b c := by
  have hL := h.hL
  have hoY := qy_O h.ho
  have hY := h.hY b c hb hc
  -- each X m at b is an offer
  have off : ∀ m, L ≤ m → ∀ q v, X m b c = some (q, v) → q < 4 * b ∧ qx_K (X (m - 1)) (cl m) (st m) b c q = some v := fun m hm q v hx => by
    have h1 := h.hX (m - 1) b c hb hc
    rw [show m - 1 + 1 = m by omega, hx] at h1
    exact ⟨h1.1, h1.2.1⟩
  unfold qy_A
  cases hy : Y b c with
  | none =>
    rw [hy] at hY
    intro m hm
    cases hx : X m b c with
    | none => rfl
    | some z =>
      obtain ⟨o1, o2⟩ := off m hm z.1 z.2 hx
      obtain ⟨i, v2, n2, i1, _, _, _, i5, _⟩ := qy_ans h hb ih hm o1 o2
      rw [hY i i1] at i5
      cases i5
  | some z =>
    rw [hy] at hY
    obtain ⟨hz1, hz2, hz3⟩ := hY
    -- the minimal one
    have hmin : ∀ m, L ≤ m → ∀ q v, X m b c = some (q, v) → ¬ qy_lt lt (v, m) (z.2.1, z.2.2) := fun m hm q v hx => by
      obtain ⟨o1, o2⟩ := off m hm q v hx
      obtain ⟨i, v2, n2, i1, _, _, _, i5, i6, _⟩ := qy_ans h hb ih hm o1 o2
      exact hoY.nt _ _ _ i6 (hz3 i i1 _ i5).1
    -- where it comes from
    have hfrom : L ≤ z.2.2 ∧ (z.1 % 8 < 4 → z.2.2 = L) ∧ (4 ≤ z.1 % 8 → ∃ i y, Y (z.1 / 8) (z.1 % 4) = some (i, y, z.2.2 - 1) ∧ L + 1 ≤ z.2.2) ∧ qx_K (X (z.2.2 - 1)) (cl z.2.2) (st z.2.2) b c (4 * (z.1 / 8) + z.1 % 4) = some z.2.1 := by
      have hz2' := hz2
      unfold qy_K at hz2
      by_cases hcl : cl L (z.1 / 8) b = some c
      · rw [if_pos hcl] at hz2
        have j1 : (4 * (z.1 / 8) + z.1 % 4) / 4 = z.1 / 8 := by omega
        have j2 : (4 * (z.1 / 8) + z.1 % 4) % 4 = z.1 % 4 := by omega
        by_cases hs : z.1 % 8 < 4
        · rw [if_pos hs] at hz2
          cases hx : X (L - 1) (z.1 / 8) (z.1 % 4) with
          | none => rw [hx] at hz2; cases hz2
          | some y =>
            rw [hx] at hz2
            simp only [Option.map_some, Option.some.injEq] at hz2
            have e1 : st L (z.1 / 8) b (z.1 % 4) y.2 = z.2.1 := congrArg Prod.fst hz2
            have e2 : L = z.2.2 := congrArg Prod.snd hz2
            refine ⟨by omega, fun _ => e2.symm, fun q => absurd hs (by omega), ?_⟩
            unfold qx_K
            rw [← e2, j1, j2, if_pos hcl, hx]
            simp only [Option.map_some, e1]
        · rw [if_neg hs] at hz2
          cases hx : Y (z.1 / 8) (z.1 % 4) with
          | none => rw [hx] at hz2; cases hz2
          | some y =>
            rw [hx] at hz2
            simp only [Option.map_some, Option.some.injEq] at hz2
            have e1 : st L (z.1 / 8) b (z.1 % 4) y.2.1 = z.2.1 := congrArg Prod.fst hz2
            have e2 : y.2.2 + 1 = z.2.2 := congrArg Prod.snd hz2
            have hA := ih (z.1 / 8) (by omega) (z.1 % 4) (by omega)
            unfold qy_A at hA
            rw [hx] at hA
            obtain ⟨a1, a2, _⟩ := hA
            have a3 := qx_le h _ _ _ (by omega) (by omega) _ a2
            obtain ⟨u1, u2⟩ := h.hu z.2.2 (z.1 / 8) b (by omega) (by omega) (by omega) hb
            refine ⟨by omega, fun q => absurd q hs, fun _ => ⟨y.1, y.2.1, by rw [← e2]; rfl, by omega⟩, ?_⟩
            unfold qx_K
            rw [j1, j2, u1, if_pos hcl, ← e2, show y.2.2 + 1 - 1 = y.2.2 by omega, a2]
            rw [← e2] at u2
            simp only [Option.map_some, u2, e1]
      · rw [if_neg hcl] at hz2; cases hz2
    obtain ⟨f1, f2, f3, f4⟩ := hfrom
    refine ⟨f1, ?_, f2, f3, hmin⟩
    have hX := h.hX (z.2.2 - 1) b c hb hc
    rw [show z.2.2 - 1 + 1 = z.2.2 by omega] at hX
    refine qb_uni hX ?_
    refine ⟨by show 4 * (z.1 / 8) + z.1 % 4 < 4 * b; omega, f4, fun j hj v hv => ?_⟩
    obtain ⟨i, v2, n2, i1, i2, i3, i4, i5, i6, i7⟩ := qy_ans h hb ih f1 hj hv
    have g := hz3 i i1 _ i5
    have g1 : ¬ qy_lt lt (v, z.2.2) (z.2.1, z.2.2) := hoY.nt _ _ _ i6 g.1
    refine ⟨fun q => g1 (Or.inl q), fun hlt => ?_⟩
    have hlt2 : j < 4 * (z.1 / 8) + z.1 % 4 := hlt
    have hs : (i % 8 < 4 ↔ z.1 % 8 < 4) := by
      rw [← i4]
      constructor
      · intro q
        rcases Nat.lt_or_ge (z.1 % 8) 4 with w | w
        · exact w
        · obtain ⟨_, _, _, w2⟩ := f3 w
          omega
      · exact f2
    have hi : i < z.1 := by omega
    have g2 := g.2 hi
    refine Classical.byContradiction (fun q => ?_)
    -- v is no worse than the best: then the offer i is as good as the best
    have q0 : ¬ lt v z.2.1 := fun w => g1 (Or.inl w)
    rcases g2 with g2 | ⟨g2, g3⟩
    · -- z < v2, v2 ≤ v ≤ z
      have q1 : ¬ lt v v2 := fun w => i6 (Or.inl w)
      exact absurd g2 (h.ho.nt _ _ _ q q1)
    · have q1 : ¬ lt v v2 := fun w => i6 (Or.inl w)
      have q2 : ¬ lt z.2.1 v2 := h.ho.nt _ _ _ q q1
      have q3 : ¬ lt v2 v := fun w => by
        have := h.ho.nt v2 z.2.1 v g2 q
        exact this w
      have g3' : z.2.2 < n2 := g3
      have := i7 q3 (by omega)
      omega
theorem qy_all (h : qy_H lt G B L X Y cl st) : ∀ (N b : Nat), b < N → b ≤ B → ∀ c, c < 4 → qy_A lt L X Y b c
  | 0, _, h0, _ => absurd h0 (Nat.not_lt_zero _)
  | N + 1, b, h0, hb => qy_step h hb (fun a ha => qy_all h N a (by omega) (by omega))
end QY
