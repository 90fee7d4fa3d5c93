/-! where the next line begins -/
theorem pm_kf_in (kd : Nat → Int32) (b : Nat) : ∀ d, pm_kf kd b d = b ∨ (pm_bx kd (pm_kf kd b d) ∧ b - d ≤ pm_kf kd b d ∧ pm_kf kd b d < b)
  | 0 => Or.inl rfl
  | d + 1 => by
    unfold pm_kf
    by_cases h : pm_bx kd (b - d - 1)
    · rw [if_pos h]
      rcases Nat.lt_or_ge (b - d - 1) b with q | q
      · exact Or.inr ⟨h, by omega, q⟩
      · exact Or.inl (by omega)
    · rw [if_neg h]
      rcases pm_kf_in kd b d with q | ⟨q1, q2, q3⟩
      · exact Or.inl q
      · exact Or.inr ⟨q1, by omega, q3⟩
theorem pm_kf_no (kd : Nat → Int32) (b : Nat) : ∀ d, d ≤ b → ∀ x, b - d ≤ x → x < pm_kf kd b d → ¬ pm_bx kd x
  | 0, _, x, h1, h2 => by
    have : pm_kf kd b 0 = b := rfl
    omega
  | d + 1, hd, x, h1, h2 => by
    unfold pm_kf at h2
    by_cases h : pm_bx kd (b - d - 1)
    · rw [if_pos h] at h2; omega
    · rw [if_neg h] at h2
      by_cases e : x = b - d - 1
      · rw [e]; exact h
      · exact pm_kf_no kd b d (by omega) x (by omega) h2
/-- the first box or cut behind k, below b; b if there is none -/
def qk_n (kd : Nat → Int32) (k b : Nat) : Nat := pm_kf kd b (b - 1 - k)
theorem qk_u {kd : Nat → Int32} {k b r : Nat} (hk : k < b) (h1 : k < r) (h2 : r ≤ b) (h3 : ∀ x, k < x → x < r → ¬ pm_bx kd x) (h4 : r = b ∨ pm_bx kd r) : qk_n kd k b = r := by
  have a := pm_kf_in kd b (b - 1 - k)
  have n := pm_kf_no kd b (b - 1 - k) (by omega)
  unfold qk_n
  generalize pm_kf kd b (b - 1 - k) = t at *
  rcases Nat.lt_trichotomy t r with q | q | q
  · rcases a with a | ⟨a1, a2, a3⟩
    · omega
    · exact absurd a1 (h3 t (by omega) q)
  · exact q
  · rcases h4 with h4 | h4
    · rcases a with a | ⟨a1, a2, a3⟩ <;> omega
    · exact absurd h4 (n r (by omega) q)
theorem qk_sp {kd : Nat → Int32} {k b : Nat} (hk : k < b) : k < qk_n kd k b ∧ qk_n kd k b ≤ b ∧ (∀ x, k < x → x < qk_n kd k b → ¬ pm_bx kd x) ∧ (qk_n kd k b = b ∨ pm_bx kd (qk_n kd k b)) := by
  have a := pm_kf_in kd b (b - 1 - k)
  have n := pm_kf_no kd b (b - 1 - k) (by omega)
  unfold qk_n
  generalize pm_kf kd b (b - 1 - k) = t at *
  rcases a with a | ⟨a1, a2, a3⟩
  · exact ⟨by omega, by omega, fun x h1 h2 => n x (by omega) h2, Or.inl a⟩
  · exact ⟨by omega, by omega, fun x h1 h2 => n x (by omega) h2, Or.inr a1⟩
theorem qk_s {kd : Nat → Int32} {k i : Nat} (hk : k < i) : qk_n kd k (i + 1) = if qk_n kd k i = i then (if pm_bx kd i then i else i + 1) else qk_n kd k i := by
  obtain ⟨a1, a2, a3, a4⟩ := qk_sp (kd := kd) hk
  by_cases e : qk_n kd k i = i
  · rw [if_pos e]
    rw [e] at a3
    by_cases h : pm_bx kd i
    · rw [if_pos h]
      exact qk_u (by omega) hk (by omega) a3 (Or.inr h)
    · rw [if_neg h]
      exact qk_u (by omega) (by omega) (by omega) (fun x h1 h2 => (show x < i ∨ x = i by omega).elim (fun q => a3 x h1 q) (fun q => q ▸ h)) (Or.inl rfl)
  · rw [if_neg e]
    exact qk_u (by omega) a1 (by omega) a3 (Or.inr (a4.resolve_left e))
theorem qk_0 {kd : Nat → Int32} {k : Nat} : qk_n kd k (k + 1) = k + 1 := qk_u (by omega) (by omega) (by omega) (fun x h1 h2 => absurd h2 (by omega)) (Or.inl rfl)
theorem qk_min {kd : Nat → Int32} {k b c : Nat} (hk : k < b) (hb : b ≤ c) : min (qk_n kd k c) b = qk_n kd k b := by
  obtain ⟨a1, a2, a3, a4⟩ := qk_sp (kd := kd) (show k < c by omega)
  refine (qk_u hk (by omega) (by omega) (fun x h1 h2 => a3 x h1 (by omega)) ?_).symm
  rcases Nat.lt_or_ge (qk_n kd k c) b with q | q
  · rw [Nat.min_eq_left (by omega)]
    exact Or.inr (a4.resolve_left (by omega))
  · exact Or.inl (Nat.min_eq_right q)
