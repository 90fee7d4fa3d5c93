/-! the class's numbers and the reference's -/
theorem qa_le (s : Int32) (k : Nat) (hk : k < 2 ^ 31) (K : Int64) (hK : K.toInt = k) : K ≤ s.toInt64 ↔ nI k ≤ s := by
  rw [Int64.le_iff_toInt_le, Int32.le_iff_toInt_le, Int32.toInt_toInt64, nI_toInt hk, hK]
theorem qa_lt {s K : Int32} {K2 : Int64} (hK : K2.toInt = K.toInt) : K2 < s.toInt64 ↔ K < s := by
  rw [Int64.lt_iff_toInt_lt, Int32.lt_iff_toInt_lt, Int32.toInt_toInt64, hK]
theorem qa_le2 {s K : Int32} {K2 : Int64} (hK : K2.toInt = K.toInt) : s.toInt64 ≤ K2 ↔ s ≤ K := by
  rw [Int64.le_iff_toInt_le, Int32.le_iff_toInt_le, Int32.toInt_toInt64, hK]
theorem qa_d0 (s : Int32) : pk_d0 s.toInt64 = pm_d0 s := by
  unfold pk_d0 pm_d0
  have h1 : (10000 ≤ s.toInt64) ↔ nI 10000 ≤ s := qa_le s 10000 (by decide) 10000 (by decide +kernel)
  have h2 : ((-10000) < s.toInt64) ↔ (-10000) < s := qa_lt (by decide +kernel)
  simp only [h1, h2]
theorem qa_d1 (d : Int64) (p : Int32) : pk_d1 d p.toInt64 = d + pm_d1 p := by
  unfold pk_d1 pm_d1
  have h1 : (p.toInt64 ≤ 0) ↔ p ≤ 0 := qa_le2 (by decide +kernel)
  have h2 : (p.toInt64 ≤ (-10000)) ↔ p ≤ (-10000) := qa_le2 (by decide +kernel)
  simp only [h1, h2]
  by_cases q : p ≤ 0
  · rw [if_pos q, if_pos q]
    by_cases q2 : p ≤ (-10000)
    · rw [if_pos q2, if_pos q2, Int64.add_zero]
    · rw [if_neg q2, if_neg q2, Int64.neg_mul, ← Int64.sub_eq_add_neg]
  · rw [if_neg q, if_neg q]
theorem qa_br {kd wd od ik ic fl : Nat → Int32} {cn ps i : Nat} {au : Int32} (hk : ∀ x, x < cn → ik x = kd x) (hc : ∀ x, x < cn → kd x = nI 3 → ic x = wd x) (hf : ∀ x, x < cn → kd x = nI 4 → fl x = od x) (ha : au = 0 ↔ ¬ 1 < ps) (hi : i < cn) : pk_br ik ic fl cn au i ↔ pm_br kd wd od cn ps i := by
  unfold pk_br pm_br pk_fl
  rw [if_pos hi, if_neg (show ¬ i = cn by omega), hk i hi]
  by_cases h1 : kd i = nI 1
  · rw [if_pos h1, if_pos h1]
    constructor
    · rintro (⟨a, b, e⟩ | ⟨a, b, e⟩)
      · rw [hk _ b] at e; exact ⟨a, Or.inl (e.trans nI_0)⟩
      · rw [hk _ b] at e; exact ⟨a, Or.inr e⟩
    · rintro ⟨a, e | e⟩
      · exact Or.inl ⟨a, by omega, by rw [hk _ (by omega), e, nI_0]⟩
      · exact Or.inr ⟨a, by omega, by rw [hk _ (by omega), e]⟩
  · rw [if_neg h1, if_neg h1]
    by_cases h2 : kd i = nI 2
    · rw [if_pos h2, if_pos h2]
      constructor
      · rintro ⟨a, e⟩; rw [hk _ a] at e; exact ⟨a, e⟩
      · rintro ⟨a, e⟩; exact ⟨a, by rw [hk _ a, e]⟩
    · rw [if_neg h2, if_neg h2]
      by_cases h3 : kd i = nI 3
      · rw [if_pos h3, if_pos h3, hc i hi h3]
        exact Int32.not_le
      · rw [if_neg h3, if_neg h3]
        by_cases h4 : kd i = nI 4
        · rw [if_pos h4, hf i hi h4]
          constructor
          · rintro (a | a)
            · exact ⟨h4, Or.inl (Classical.byContradiction (fun q => a (ha.mpr q)))⟩
            · exact ⟨h4, Or.inr (Classical.byContradiction (fun q => a ⟨⟨hi, h4⟩, q⟩))⟩
          · rintro ⟨_, a | a⟩
            · exact Or.inl (fun q => (ha.mp q) a)
            · exact Or.inr (fun q => q.2 a)
        · rw [if_neg h4]
          exact ⟨fun q => q.elim, fun q => h4 q.1⟩
theorem qa_pen {kd wd od ik ic fl ru : Nat → Int32} {cn i : Nat} (hk : ∀ x, x < cn → ik x = kd x) (hc : ∀ x, x < cn → kd x = nI 3 → ic x = wd x) (hf : ∀ x, x < cn → kd x = nI 4 → fl x = od x) (hb : ∀ x, x < cn → kd x = nI 4 → (od x &&& nI 1 = nI 1 ↔ ¬ od x &&& nI 1 = 0)) (hi : i < cn) : pk_cost ik ic fl ru cn i = pm_pen kd wd od ru cn i := by
  have n43 : ¬ nI 4 = nI 3 := by decide
  unfold pk_cost pm_pen pk_fl
  rw [if_neg (show ¬ i = cn by omega)]
  by_cases h4 : kd i = nI 4
  · have e4 : i < cn ∧ ik i = nI 4 := ⟨hi, by rw [hk i hi, h4]⟩
    have e3 : ¬ kd i = nI 3 := by rw [h4]; exact n43
    rw [if_pos e4, if_neg e3, if_pos h4]
    by_cases h : od i &&& nI 1 = nI 1
    · have ef : (i < cn ∧ ik i = nI 4) ∧ ¬ fl i &&& nI 1 = 0 := ⟨e4, by rw [hf i hi h4]; exact (hb i hi h4).mp h⟩
      rw [if_pos ef, if_pos h]
    · have ef : ¬ ((i < cn ∧ ik i = nI 4) ∧ ¬ fl i &&& nI 1 = 0) := fun q => h ((hb i hi h4).mpr (by rw [← hf i hi h4]; exact q.2))
      rw [if_neg ef, if_neg h]
  · have e4 : ¬ (i < cn ∧ ik i = nI 4) := fun q => h4 (by rw [← hk i hi]; exact q.2)
    rw [if_neg e4]
    by_cases h3 : kd i = nI 3
    · have e3 : i < cn ∧ ik i = nI 3 := ⟨hi, by rw [hk i hi, h3]⟩
      rw [if_pos e3, if_pos h3, hc i hi h3]
    · have e3 : ¬ (i < cn ∧ ik i = nI 3) := fun q => h3 (by rw [← hk i hi]; exact q.2)
      rw [if_neg e3, if_neg h3, if_neg h4]
theorem qa_sum {f g : Nat → Int64} {cn b : Nat} (h : ∀ i, i < cn → f (i + 1) = f i + g i) (hb : b ≤ cn) : ∀ d, d ≤ b → f b - f (b - d) = pm_rs g b d
  | 0, _ => Int64.sub_self _
  | d + 1, hd => by
    have ih := qa_sum h hb d (by omega)
    have h2 := h (b - d - 1) (by omega)
    rw [show b - d - 1 + 1 = b - d by omega] at h2
    show _ = pm_rs g b d + g (b - d - 1)
    rw [← ih, h2, show b - (d + 1) = b - d - 1 by omega]
    generalize f b = x
    generalize f (b - d - 1) = y
    generalize g (b - d - 1) = z
    grind
theorem qa_dem {ru : Nat → Int32} {fb p hx hy : Int32} {y n c was : Nat} {hb hf en : Prop} [Decidable hb] [Decidable hf] [Decidable en] (h1 : hx = 0 ↔ ¬ hf) (h2 : hy = 0 ↔ ¬ hb) (h3 : y = n ↔ en) : pk_dem ru fb p hx hy y n + (if pm_adj c was then (ru 5).toInt64 else 0) = pm_cost ru fb p c was hb hf en := by
  unfold pk_dem pm_cost pk_d2 pk_d3
  rw [qa_d0, qa_d1]
  congr 1
  generalize pm_d0 (ru 2 + fb) + pm_d1 p = d
  by_cases a : hf
  · have e1 : ¬ hx = 0 := fun q => (h1.mp q) a
    rw [if_neg e1, if_neg e1]
    by_cases b : hb
    · have e2 : ¬ hy = 0 := fun q => (h2.mp q) b
      rw [if_neg e2, if_pos b, if_pos a]
      by_cases q : en
      · rw [if_pos (h3.mpr q), if_pos q, if_pos a]
      · rw [if_neg (fun z => q (h3.mp z)), if_neg q, Int64.add_zero]
    · rw [if_pos (h2.mpr b), if_neg b, Int64.add_zero]
      by_cases q : en
      · rw [if_pos (h3.mpr q), if_pos q, if_pos a]
      · rw [if_neg (fun z => q (h3.mp z)), if_neg q, Int64.add_zero]
  · have e1 : hx = 0 := h1.mpr a
    rw [if_pos e1, if_pos e1, if_neg a, ite_self, Int64.add_zero, if_neg a, ite_self, Int64.add_zero]
