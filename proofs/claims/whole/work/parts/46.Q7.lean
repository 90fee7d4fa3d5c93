/-! a layer, break by break -/
section KL
variable {d : kj_D} {n bn off : Nat} {P : Nat → Nat → Option ke_K} 
theorem kz_cg {op : Prop} [Decidable op] {Z Z2 : Nat → Nat → ke_R} {b z i : Nat} (h : ∀ a y, a < b → y < 4 → Z a y = Z2 a y) (hi : i < 8 * b) : kz_K d n P Z op b z i = kz_K d n P Z2 op b z i := by
  unfold kz_K
  rw [h (i / 8) (i % 4) (by omega) (by omega)]
abbrev kl_inv (d : kj_D) (n bn off : Nat) (P : Nat → Nat → Option ke_K) (op : Prop) [Decidable op] (b9 : Nat) (Z : Nat → Nat → ke_R) (ro : Nat → Int64) (rv : Nat → Int32) (rd : Nat → Int64) (rc bk : Nat → Int32) : Prop := (∀ b, b < b9 → ∀ z, z < 4 → qb_is ke_T (kz_K d n P Z op b z) (8 * b) (Z b z) ∧ kv_ ro rv rd rc (b * 4 + z) ((Z b z).map Prod.snd) ∧ kw_ bk (off + (b * 4 + z)) (Z b z)) ∧ (∀ b, b9 ≤ b → b ≤ bn → ∀ z, z < 4 → rc (b * 4 + z) = (-1)) ∧ (∀ b, b < n → ∀ z, Z b z = none)
theorem kl_inv.full {d : kj_D} {n bn off : Nat} {P : Nat → Nat → Option ke_K} {op : Prop} [Decidable op] {b9 : Nat} {Z : Nat → Nat → ke_R} {ro : Nat → Int64} {rv : Nat → Int32} {rd : Nat → Int64} {rc bk : Nat → Int32} (h : kl_inv d n bn off P op b9 Z ro rv rd rc bk) : ∀ b, b < b9 → ∀ z, z < 4 → qb_is ke_T (kz_K d n P Z op b z) (8 * b) (Z b z) ∧ kv_ ro rv rd rc (b * 4 + z) ((Z b z).map Prod.snd) ∧ kw_ bk (off + (b * 4 + z)) (Z b z) := h.1
theorem kl_inv.rest {d : kj_D} {n bn off : Nat} {P : Nat → Nat → Option ke_K} {op : Prop} [Decidable op] {b9 : Nat} {Z : Nat → Nat → ke_R} {ro : Nat → Int64} {rv : Nat → Int32} {rd : Nat → Int64} {rc bk : Nat → Int32} (h : kl_inv d n bn off P op b9 Z ro rv rd rc bk) : ∀ b, b9 ≤ b → b ≤ bn → ∀ z, z < 4 → rc (b * 4 + z) = (-1) := h.2.1
theorem kl_inv.low {d : kj_D} {n bn off : Nat} {P : Nat → Nat → Option ke_K} {op : Prop} [Decidable op] {b9 : Nat} {Z : Nat → Nat → ke_R} {ro : Nat → Int64} {rv : Nat → Int32} {rd : Nat → Int64} {rc bk : Nat → Int32} (h : kl_inv d n bn off P op b9 Z ro rv rd rc bk) : ∀ b, b < n → ∀ z, Z b z = none := h.2.2
variable {Z : Nat → Nat → ke_R} {ro ro2 : Nat → Int64} {rv rv2 : Nat → Int32} {rd rd2 : Nat → Int64} {rc rc2 bk bk2 : Nat → Int32} {b9 : Nat}
theorem kz_low {op : Prop} [Decidable op] (hP : ∀ a, a + 1 < n → ∀ z, z < 4 → P a z = none) (hZ : ∀ b, b < n → ∀ z, Z b z = none) {b z i : Nat} (hi : i / 8 + 1 < n) : kz_K d n P Z op b z i = none := by
  unfold kz_K
  split
  · rw [hP (i / 8) hi (i % 4) (by omega), hZ (i / 8) (by omega)]
    split
    · rfl
    · split <;> rfl
  · rfl
theorem kl_0 {op : Prop} [Decidable op] (hP : ∀ a, a + 1 < n → ∀ z, z < 4 → P a z = none) (hrc : ∀ p, p < (bn + 1) * 4 → rc p = (-1)) (hn : n ≤ bn + 1) : kl_inv d n bn off P op n (fun _ _ => none) ro rv rd rc bk := by
  refine ⟨?_, ?_, ?_⟩
  · exact fun b hb z hz => ⟨fun i hi => kz_low hP (fun _ _ _ => rfl) (by omega), hrc _ (by omega), fun w q => by cases q⟩
  · exact fun b h1 h2 z hz => hrc _ (by omega)
  · exact fun _ _ _ => rfl
theorem kl_in {op : Prop} [Decidable op] (h : kl_inv d n bn off P op b9 Z ro rv rd rc bk) (hP : ∀ a, a + 1 < n → ∀ z, z < 4 → P a z = none) (hb : b9 ≤ bn) {a : Nat} (ha : ∀ x, x < a → x < d.lo b9 ∨ x + 1 < n) : kr_at (kz_K d n P Z op b9) (8 * a) b9 off ro rv rd rc bk := fun z hz => by
  refine ⟨none, h.rest b9 (Nat.le_refl _) hb z hz, fun w q => ?_, fun i hi => ?_⟩
  · cases q
  rcases ha (i / 8) (by omega) with q | q
  · have hcl : kj_cl d n (i / 8) b9 = none := if_neg (fun w => absurd w.1 (by omega))
    unfold kz_K
    rw [hcl]
    rfl
  · exact kz_low hP h.low q
theorem kl_next {op : Prop} [Decidable op] (h : kl_inv d n bn off P op b9 Z ro rv rd rc bk) (hn : n ≤ b9) (hf : kr_fr b9 off ro rv rd rc bk ro2 rv2 rd2 rc2 bk2) (hat : kr_at (kz_K d n P Z op b9) (8 * b9) b9 off ro2 rv2 rd2 rc2 bk2) : ∃ Z2, kl_inv d n bn off P op (b9 + 1) Z2 ro2 rv2 rd2 rc2 bk2 := by
  have hx : ∃ r : Nat → ke_R, ∀ z, z < 4 → kv_ ro2 rv2 rd2 rc2 (b9 * 4 + z) ((r z).map Prod.snd) ∧ kw_ bk2 (off + (b9 * 4 + z)) (r z) ∧ qb_is ke_T (kz_K d n P Z op b9 z) (8 * b9) (r z) :=
    ⟨fun z => if hz : z < 4 then Classical.choose (hat z hz) else none, fun z hz => by
      simp only [hz, dif_pos]
      exact Classical.choose_spec (hat z hz)⟩
  obtain ⟨r, hr⟩ := hx
  refine ⟨fun b z => if b = b9 then r z else Z b z, fun b hb z hz => ?_, fun b h1 h2 z hz => ?_, fun b hb z => ?_⟩
  · by_cases e : b = b9
    · subst e
      obtain ⟨h1, h2, h3⟩ := hr z hz
      simp only [if_true]
      exact ⟨qb_congr h3 (fun i hi => kz_cg (fun a y ha _ => by rw [if_neg (by omega)]) hi), h1, h2⟩
    · obtain ⟨h1, h2, h3⟩ := h.full b (by omega) z hz
      obtain ⟨f1, f2, f3, f4⟩ := hf.1 (b * 4 + z) (Or.inl (by omega))
      simp only [if_neg e]
      refine ⟨qb_congr h1 (fun i hi => kz_cg (fun a y ha _ => by rw [if_neg (by omega)]) hi), kv_congr h2 f1 f2 f3 f4, fun w hw => ?_⟩
      rw [hf.2 _ (Or.inl (by omega))]
      exact h3 w hw
  · rw [(hf.1 (b * 4 + z) (Or.inr (by omega))).2.2.2]
    exact h.rest b (by omega) h2 z hz
  · simp only [if_neg (show ¬ b = b9 by omega)]
    exact h.low b hb z
/-- a way has at most as many lines as its break's number -/
theorem kl_cnt {op : Prop} [Decidable op] (h : kl_inv d n bn off P op b9 Z ro rv rd rc bk) (hP : ∀ a, a ≤ bn → ∀ z, z < 4 → ∀ w, P a z = some w → w.2 ≤ a) (hb9 : b9 ≤ bn + 1) : ∀ (N b : Nat), b < N → b < b9 → ∀ z, z < 4 → ∀ w, Z b z = some w → w.2.2 ≤ b
  | 0, _, h0, _, _, _, _, _ => absurd h0 (Nat.not_lt_zero _)
  | N + 1, b, h0, hb, z, hz, w, hw => by
    have h1 := (h.full b hb z hz).1
    rw [hw] at h1
    have h2 := h1.2.1
    have h3 := h1.1
    unfold kz_K at h2
    split at h2
    · split at h2
      · cases hp : P (w.1 / 8) (w.1 % 4) with
        | none => rw [hp] at h2; cases h2
        | some y =>
          rw [hp] at h2
          have := hP _ (by omega) _ (by omega) y hp
          have e : (kj_sx d n (w.1 / 8) b (w.1 % 4) y) = w.2 := Option.some.inj h2
          rw [← e]
          show y.2 + 1 ≤ b
          omega
      · split at h2
        · cases hp : Z (w.1 / 8) (w.1 % 4) with
          | none => rw [hp] at h2; cases h2
          | some y =>
            rw [hp] at h2
            have := kl_cnt h hP hb9 N (w.1 / 8) (by omega) (by omega) (w.1 % 4) (by omega) y hp
            have e : (kj_sx d n (w.1 / 8) b (w.1 % 4) y.2) = w.2 := Option.some.inj h2
            rw [← e]
            show y.2.2 + 1 ≤ b
            omega
        · cases h2
    · cases h2
end KL
