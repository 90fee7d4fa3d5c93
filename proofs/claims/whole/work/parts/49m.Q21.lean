/-! what fillLayers needs -/
section KQ2
variable {d : kj_D} {QX : Nat → Nat → Nat → Option (Nat × qx_V)} {bn : Nat}
theorem kq_le (hX : kq_X d bn QX) : ∀ (n b z : Nat), b ≤ bn → ∀ y, QX n b z = some y → n ≤ b
  | 0, _, _, _, _, _ => Nat.zero_le _
  | n + 1, b, z, hb, y, hy => by
    obtain ⟨k1, w, k2⟩ := kq_from hX hb (show QX (n + 1) b z = some (y.1, y.2) from hy)
    have := kq_le hX n (y.1 / 4) (y.1 % 4) (by omega) w k2
    omega
theorem kq_Pc (hX : kq_X d bn QX) {n : Nat} : ∀ a, a ≤ bn → ∀ z, z < 4 → ∀ w, kq_P QX n a z = some w → w.2 ≤ a := fun a ha z _ w hw => by
  unfold kq_P at hw
  cases hx : QX n a z with
  | none => rw [hx] at hw; cases hw
  | some y =>
    rw [hx] at hw
    have := kq_le hX n a z ha y hx
    have e : (y.2, n) = w := Option.some.inj hw
    rw [← e]; exact this
theorem kq_Pl (hX : kq_X d bn QX) {n : Nat} (hn : n ≤ bn + 1) : ∀ a, a + 1 < n → ∀ z, z < 4 → kq_P QX (n - 1) a z = none := fun a ha z _ => by
  unfold kq_P
  cases hx : QX (n - 1) a z with
  | none => rfl
  | some y =>
    have := kq_le hX (n - 1) a z (by omega) y hx
    omega
/-- the row before the first layer -/
theorem kq_P0 (hX : kq_X d bn QX) {ro : Nat → Int64} {rv : Nat → Int32} {rd : Nat → Int64} {rc : Nat → Int32} (hrc : ∀ p, p < (bn + 1) * 4 → rc p = (-1)) : ∀ b z, b ≤ bn → z < 4 → kv_ (vp_updL ro 2 0) (upd rv 2 (nI 0)) (vp_updL rd 2 0) (upd rc 2 (nI 0)) (b * 4 + z) (kq_P QX (1 - 1) b z) := fun b z hb hz => by
  unfold kq_P
  rw [show 1 - 1 = 0 from rfl, hX.2]
  by_cases e : b = 0 ∧ z = 2
  · rw [if_pos e, e.1, e.2]
    refine ⟨by show 0 ≤ 1000; omega, ?_, ?_, ?_, ?_⟩
    · simp only [upd, if_true]
    · simp only [vp_updL, if_true]
    · simp only [upd, if_true]; exact nI_0
    · simp only [vp_updL, if_true]
  · rw [if_neg e]
    show upd rc 2 (nI 0) (b * 4 + z) = (-1)
    unfold upd
    rw [if_neg (by omega)]
    exact hrc _ (by omega)
/-- a filled closed row is the next one before -/
theorem kq_row {n off : Nat} {Z : Nat → Nat → ke_R} {op : Prop} [Decidable op] {ro : Nat → Int64} {rv : Nat → Int32} {rd : Nat → Int64} {rc bk : Nat → Int32} (hX : kq_X d bn QX) (hn : 1 ≤ n) (hop : ¬ op) (h : kl_inv d n bn off (kq_P QX (n - 1)) op (bn + 1) Z ro rv rd rc bk) : ∀ b z, b ≤ bn → z < 4 → kv_ ro rv rd rc (b * 4 + z) (kq_P QX (n + 1 - 1) b z) := fun b z hb hz => by
  obtain ⟨h1, h2, _⟩ := h.full b (by omega) z hz
  have e := kq_closed hX hn hop hb h1
  rw [Nat.add_sub_cancel]
  have e2 : (Z b z).map Prod.snd = kq_P QX n b z := by
    rw [e]
    unfold kq_P
    cases QX n b z <;> rfl
  rw [← e2]
  exact h2
theorem kq_zn {n off : Nat} {Z : Nat → Nat → ke_R} {P : Nat → Nat → Option ke_K} {op : Prop} [Decidable op] {ro : Nat → Int64} {rv : Nat → Int32} {rd : Nat → Int64} {rc bk : Nat → Int32} {an : Int32} {pl : Nat} (h : kl_inv d n bn off P op (bn + 1) Z ro rv rd rc bk) (ha : ka_ pl an rc) (hpl : pl = (bn + 1) * 4) (h0 : an = 0) : ∀ b z, b ≤ bn → z < 4 → Z b z = none := fun b z hb hz => by
  have h1 := (h.full b (by omega) z hz).2.1
  have h2 := (ke_has h1).mp (ha.2.mp h0 _ (by omega))
  cases hz9 : Z b z with
  | none => rfl
  | some y => rw [hz9] at h2; cases h2
end KQ2
